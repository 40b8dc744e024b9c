section
-- ===== PART A: goes FIRST, ahead of the names: the tables' words, and 'selects' of the private methods out of them =====
/-- a private method of a class that the tables say can be made, by its rows of tables_1 -/
def lw_okq (q : MethodName × Nat) : Prop := (q.1.cls ≠ "java/lang/invoke/MethodHandle" ∧ q.1.cls ≠ "java/lang/invoke/VarHandle") ∧ Cond.instantiable q.1.cls q.2 ∈ tables_1 ∧ Cond.privateMethod q.1 ∈ tables_1 ∧ Cond.instanceMethod q.1 ∈ tables_1
theorem lw_p0 : lw_okq (⟨"java/lang/Throwable", "fillInStackTrace", "(I)Ljava/lang/Throwable;"⟩, 6) := ⟨⟨by decide +kernel, by decide +kernel⟩, List.mem_of_getElem? (i := 203) (by decide +kernel), List.mem_of_getElem? (i := 201) (by decide +kernel), List.mem_of_getElem? (i := 202) (by decide +kernel)⟩
theorem lw_p1 : lw_okq (⟨"SecondWaves", "isAnyOpenAbove", "(I)Z"⟩, 14) := ⟨⟨by decide +kernel, by decide +kernel⟩, List.mem_of_getElem? (i := 15) (by decide +kernel), List.mem_of_getElem? (i := 264) (by decide +kernel), List.mem_of_getElem? (i := 265) (by decide +kernel)⟩
theorem lw_p2 : lw_okq (⟨"SecondWaves$Trigger", "set", "(IIII)V"⟩, 5) := ⟨⟨by decide +kernel, by decide +kernel⟩, List.mem_of_getElem? (i := 30) (by decide +kernel), List.mem_of_getElem? (i := 314) (by decide +kernel), List.mem_of_getElem? (i := 315) (by decide +kernel)⟩
theorem lw_p3 : lw_okq (⟨"SecondWaves", "addSilence", "(I)V"⟩, 14) := ⟨⟨by decide +kernel, by decide +kernel⟩, List.mem_of_getElem? (i := 15) (by decide +kernel), List.mem_of_getElem? (i := 318) (by decide +kernel), List.mem_of_getElem? (i := 319) (by decide +kernel)⟩
theorem lw_p4 : lw_okq (⟨"SecondWaves", "knownIncident", "(I)LSecondWaves$Incident;"⟩, 14) := ⟨⟨by decide +kernel, by decide +kernel⟩, List.mem_of_getElem? (i := 15) (by decide +kernel), List.mem_of_getElem? (i := 337) (by decide +kernel), List.mem_of_getElem? (i := 338) (by decide +kernel)⟩
theorem lw_p5 : lw_okq (⟨"SecondWaves$Unit", "setFree", "()V"⟩, 4) := ⟨⟨by decide +kernel, by decide +kernel⟩, List.mem_of_getElem? (i := 86) (by decide +kernel), List.mem_of_getElem? (i := 346) (by decide +kernel), List.mem_of_getElem? (i := 347) (by decide +kernel)⟩
theorem lw_p6 : lw_okq (⟨"SecondWaves", "stayedSilent", "(LSecondWaves$Incident;I)I"⟩, 14) := ⟨⟨by decide +kernel, by decide +kernel⟩, List.mem_of_getElem? (i := 15) (by decide +kernel), List.mem_of_getElem? (i := 358) (by decide +kernel), List.mem_of_getElem? (i := 359) (by decide +kernel)⟩
theorem lw_p7 : lw_okq (⟨"SecondWaves", "act", "(LSecondWaves$Incident;II)Z"⟩, 14) := ⟨⟨by decide +kernel, by decide +kernel⟩, List.mem_of_getElem? (i := 15) (by decide +kernel), List.mem_of_getElem? (i := 362) (by decide +kernel), List.mem_of_getElem? (i := 363) (by decide +kernel)⟩
theorem lw_p8 : lw_okq (⟨"SecondWaves", "raise", "(LSecondWaves$Incident;I)V"⟩, 14) := ⟨⟨by decide +kernel, by decide +kernel⟩, List.mem_of_getElem? (i := 15) (by decide +kernel), List.mem_of_getElem? (i := 369) (by decide +kernel), List.mem_of_getElem? (i := 370) (by decide +kernel)⟩
theorem lw_p9 : lw_okq (⟨"SecondWaves", "hasTriggerForWord", "(I)Z"⟩, 14) := ⟨⟨by decide +kernel, by decide +kernel⟩, List.mem_of_getElem? (i := 15) (by decide +kernel), List.mem_of_getElem? (i := 380) (by decide +kernel), List.mem_of_getElem? (i := 381) (by decide +kernel)⟩
theorem lw_p10 : lw_okq (⟨"SecondWaves$Trigger", "isFor", "(III)Z"⟩, 5) := ⟨⟨by decide +kernel, by decide +kernel⟩, List.mem_of_getElem? (i := 30) (by decide +kernel), List.mem_of_getElem? (i := 384) (by decide +kernel), List.mem_of_getElem? (i := 385) (by decide +kernel)⟩
theorem lw_p11 : lw_okq (⟨"SecondWaves", "happened", "(LSecondWaves$Incident;III)I"⟩, 14) := ⟨⟨by decide +kernel, by decide +kernel⟩, List.mem_of_getElem? (i := 15) (by decide +kernel), List.mem_of_getElem? (i := 388) (by decide +kernel), List.mem_of_getElem? (i := 389) (by decide +kernel)⟩
theorem lw_p12 : lw_okq (⟨"SecondWaves", "recallTooMuch", "(III)I"⟩, 14) := ⟨⟨by decide +kernel, by decide +kernel⟩, List.mem_of_getElem? (i := 15) (by decide +kernel), List.mem_of_getElem? (i := 421) (by decide +kernel), List.mem_of_getElem? (i := 422) (by decide +kernel)⟩
theorem lw_p13 : lw_okq (⟨"SecondWaves", "unitsFor", "(II)I"⟩, 14) := ⟨⟨by decide +kernel, by decide +kernel⟩, List.mem_of_getElem? (i := 15) (by decide +kernel), List.mem_of_getElem? (i := 425) (by decide +kernel), List.mem_of_getElem? (i := 426) (by decide +kernel)⟩
theorem lw_p14 : lw_okq (⟨"SecondWaves$Unit", "isFor", "(II)Z"⟩, 4) := ⟨⟨by decide +kernel, by decide +kernel⟩, List.mem_of_getElem? (i := 86) (by decide +kernel), List.mem_of_getElem? (i := 429) (by decide +kernel), List.mem_of_getElem? (i := 430) (by decide +kernel)⟩
theorem lw_p15 : lw_okq (⟨"SecondWaves", "recallOne", "(II)V"⟩, 14) := ⟨⟨by decide +kernel, by decide +kernel⟩, List.mem_of_getElem? (i := 15) (by decide +kernel), List.mem_of_getElem? (i := 436) (by decide +kernel), List.mem_of_getElem? (i := 437) (by decide +kernel)⟩
def lw_privs_1 : List (MethodName × Nat) := [(⟨"java/lang/Throwable", "fillInStackTrace", "(I)Ljava/lang/Throwable;"⟩, 6), (⟨"SecondWaves", "isAnyOpenAbove", "(I)Z"⟩, 14), (⟨"SecondWaves$Trigger", "set", "(IIII)V"⟩, 5), (⟨"SecondWaves", "addSilence", "(I)V"⟩, 14), (⟨"SecondWaves", "knownIncident", "(I)LSecondWaves$Incident;"⟩, 14), (⟨"SecondWaves$Unit", "setFree", "()V"⟩, 4), (⟨"SecondWaves", "stayedSilent", "(LSecondWaves$Incident;I)I"⟩, 14), (⟨"SecondWaves", "act", "(LSecondWaves$Incident;II)Z"⟩, 14), (⟨"SecondWaves", "raise", "(LSecondWaves$Incident;I)V"⟩, 14), (⟨"SecondWaves", "hasTriggerForWord", "(I)Z"⟩, 14), (⟨"SecondWaves$Trigger", "isFor", "(III)Z"⟩, 5), (⟨"SecondWaves", "happened", "(LSecondWaves$Incident;III)I"⟩, 14), (⟨"SecondWaves", "recallTooMuch", "(III)I"⟩, 14), (⟨"SecondWaves", "unitsFor", "(II)I"⟩, 14), (⟨"SecondWaves$Unit", "isFor", "(II)Z"⟩, 4), (⟨"SecondWaves", "recallOne", "(II)V"⟩, 14)]
theorem lw_r1 : ∀ q ∈ lw_privs_1, lw_okq q := List.forall_mem_cons.mpr ⟨lw_p0, List.forall_mem_cons.mpr ⟨lw_p1, List.forall_mem_cons.mpr ⟨lw_p2, List.forall_mem_cons.mpr ⟨lw_p3, List.forall_mem_cons.mpr ⟨lw_p4, List.forall_mem_cons.mpr ⟨lw_p5, List.forall_mem_cons.mpr ⟨lw_p6, List.forall_mem_cons.mpr ⟨lw_p7, List.forall_mem_cons.mpr ⟨lw_p8, List.forall_mem_cons.mpr ⟨lw_p9, List.forall_mem_cons.mpr ⟨lw_p10, List.forall_mem_cons.mpr ⟨lw_p11, List.forall_mem_cons.mpr ⟨lw_p12, List.forall_mem_cons.mpr ⟨lw_p13, List.forall_mem_cons.mpr ⟨lw_p14, List.forall_mem_cons.mpr ⟨lw_p15, fun _ h => absurd h List.not_mem_nil⟩⟩⟩⟩⟩⟩⟩⟩⟩⟩⟩⟩⟩⟩⟩⟩
theorem lw_p16 : lw_okq (⟨"SecondWaves$Unit", "goesBackBefore", "(LSecondWaves$Unit;)Z"⟩, 4) := ⟨⟨by decide +kernel, by decide +kernel⟩, List.mem_of_getElem? (i := 86) (by decide +kernel), List.mem_of_getElem? (i := 440) (by decide +kernel), List.mem_of_getElem? (i := 441) (by decide +kernel)⟩
theorem lw_p17 : lw_okq (⟨"SecondWaves", "knownUnit", "(I)LSecondWaves$Unit;"⟩, 14) := ⟨⟨by decide +kernel, by decide +kernel⟩, List.mem_of_getElem? (i := 15) (by decide +kernel), List.mem_of_getElem? (i := 459) (by decide +kernel), List.mem_of_getElem? (i := 460) (by decide +kernel)⟩
theorem lw_p18 : lw_okq (⟨"SecondWavesModel", "throwing", "(ZZZ)Z"⟩, 27) := ⟨⟨by decide +kernel, by decide +kernel⟩, List.mem_of_getElem? (i := 513) (by decide +kernel), List.mem_of_getElem? (i := 614) (by decide +kernel), List.mem_of_getElem? (i := 615) (by decide +kernel)⟩
theorem lw_p19 : lw_okq (⟨"SecondWavesModel", "isIncident", "(I)Z"⟩, 27) := ⟨⟨by decide +kernel, by decide +kernel⟩, List.mem_of_getElem? (i := 513) (by decide +kernel), List.mem_of_getElem? (i := 635) (by decide +kernel), List.mem_of_getElem? (i := 636) (by decide +kernel)⟩
theorem lw_p20 : lw_okq (⟨"SecondWavesModel", "isClosed", "(I)Z"⟩, 27) := ⟨⟨by decide +kernel, by decide +kernel⟩, List.mem_of_getElem? (i := 513) (by decide +kernel), List.mem_of_getElem? (i := 639) (by decide +kernel), List.mem_of_getElem? (i := 640) (by decide +kernel)⟩
theorem lw_p21 : lw_okq (⟨"SecondWavesModel", "isWith", "(II)Z"⟩, 27) := ⟨⟨by decide +kernel, by decide +kernel⟩, List.mem_of_getElem? (i := 513) (by decide +kernel), List.mem_of_getElem? (i := 643) (by decide +kernel), List.mem_of_getElem? (i := 644) (by decide +kernel)⟩
theorem lw_p22 : lw_okq (⟨"SecondWavesModel", "free", "(I)V"⟩, 27) := ⟨⟨by decide +kernel, by decide +kernel⟩, List.mem_of_getElem? (i := 513) (by decide +kernel), List.mem_of_getElem? (i := 647) (by decide +kernel), List.mem_of_getElem? (i := 648) (by decide +kernel)⟩
theorem lw_p23 : lw_okq (⟨"SecondWavesModel", "all", "(III)I"⟩, 27) := ⟨⟨by decide +kernel, by decide +kernel⟩, List.mem_of_getElem? (i := 513) (by decide +kernel), List.mem_of_getElem? (i := 656) (by decide +kernel), List.mem_of_getElem? (i := 657) (by decide +kernel)⟩
theorem lw_p24 : lw_okq (⟨"SecondWavesModel", "act", "(II)I"⟩, 27) := ⟨⟨by decide +kernel, by decide +kernel⟩, List.mem_of_getElem? (i := 513) (by decide +kernel), List.mem_of_getElem? (i := 660) (by decide +kernel), List.mem_of_getElem? (i := 661) (by decide +kernel)⟩
theorem lw_p25 : lw_okq (⟨"SecondWavesModel", "withSkill", "(II)I"⟩, 27) := ⟨⟨by decide +kernel, by decide +kernel⟩, List.mem_of_getElem? (i := 513) (by decide +kernel), List.mem_of_getElem? (i := 684) (by decide +kernel), List.mem_of_getElem? (i := 685) (by decide +kernel)⟩
theorem lw_p26 : lw_okq (⟨"SecondWavesModel", "goesAhead", "(II)Z"⟩, 27) := ⟨⟨by decide +kernel, by decide +kernel⟩, List.mem_of_getElem? (i := 513) (by decide +kernel), List.mem_of_getElem? (i := 688) (by decide +kernel), List.mem_of_getElem? (i := 689) (by decide +kernel)⟩
theorem lw_p27 : lw_okq (⟨"SecondWavesModel", "isUnit", "(I)Z"⟩, 27) := ⟨⟨by decide +kernel, by decide +kernel⟩, List.mem_of_getElem? (i := 513) (by decide +kernel), List.mem_of_getElem? (i := 700) (by decide +kernel), List.mem_of_getElem? (i := 701) (by decide +kernel)⟩
def lw_privs_2 : List (MethodName × Nat) := [(⟨"SecondWaves$Unit", "goesBackBefore", "(LSecondWaves$Unit;)Z"⟩, 4), (⟨"SecondWaves", "knownUnit", "(I)LSecondWaves$Unit;"⟩, 14), (⟨"SecondWavesModel", "throwing", "(ZZZ)Z"⟩, 27), (⟨"SecondWavesModel", "isIncident", "(I)Z"⟩, 27), (⟨"SecondWavesModel", "isClosed", "(I)Z"⟩, 27), (⟨"SecondWavesModel", "isWith", "(II)Z"⟩, 27), (⟨"SecondWavesModel", "free", "(I)V"⟩, 27), (⟨"SecondWavesModel", "all", "(III)I"⟩, 27), (⟨"SecondWavesModel", "act", "(II)I"⟩, 27), (⟨"SecondWavesModel", "withSkill", "(II)I"⟩, 27), (⟨"SecondWavesModel", "goesAhead", "(II)Z"⟩, 27), (⟨"SecondWavesModel", "isUnit", "(I)Z"⟩, 27)]
theorem lw_r2 : ∀ q ∈ lw_privs_2, lw_okq q := List.forall_mem_cons.mpr ⟨lw_p16, List.forall_mem_cons.mpr ⟨lw_p17, List.forall_mem_cons.mpr ⟨lw_p18, List.forall_mem_cons.mpr ⟨lw_p19, List.forall_mem_cons.mpr ⟨lw_p20, List.forall_mem_cons.mpr ⟨lw_p21, List.forall_mem_cons.mpr ⟨lw_p22, List.forall_mem_cons.mpr ⟨lw_p23, List.forall_mem_cons.mpr ⟨lw_p24, List.forall_mem_cons.mpr ⟨lw_p25, List.forall_mem_cons.mpr ⟨lw_p26, List.forall_mem_cons.mpr ⟨lw_p27, fun _ h => absurd h List.not_mem_nil⟩⟩⟩⟩⟩⟩⟩⟩⟩⟩⟩⟩
def lw_privs : List (MethodName × Nat) := lw_privs_1 ++ (lw_privs_2)
def lw_tbl : List Cond := k2_sels lw_privs ++ tables_1
theorem lw_privs_ok : ∀ q ∈ lw_privs, lw_okq q := by
  show ∀ q ∈ lw_privs_1 ++ (lw_privs_2), lw_okq q
  exact List.forall_mem_append.mpr ⟨lw_r1, lw_r2⟩
end
section
/-! the printed kit rows of claim/NAMES.whole.lean.txt (their text as printed; what the screen refuses written out), behind a word that they lack -/
def va_AOA (ty : FieldType) (U : State) : Prop := (Cond.arrayOver (.array ty)).before #[] U = true
theorem va_AOA.use {ty : FieldType} {A : Array Value} {U : State} (h : va_AOA ty U) : (Cond.arrayOver (.array ty)).before A U = true := h
/-! ===== BEGIN words of one list among another's, by their places ===== -/
theorem goodIn_r {big : List Cond} (ws : List Cond) (ps : List Nat) (hp : ws = ps.filterMap (fun i => big[i]?)) (h : ws.all goodWord = true) : GoodIn big ws := by
  intro w hw
  have h1 := List.all_eq_true.mp h w hw
  rw [hp] at hw
  obtain ⟨i, -, hi⟩ := List.mem_filterMap.mp hw
  have hm : w ∈ big := by first | exact List.mem_of_getElem? hi | exact List.getElem?_mem hi
  exact ⟨hm, good_of_word h1⟩
theorem goodIn_app {big a b : List Cond} (ha : GoodIn big a) (hb : GoodIn big b) : GoodIn big (a ++ b) := fun w h => (List.mem_append.mp h).elim (ha w) (hb w)
theorem goodIn_ca {big a b : List Cond} {c : Cond} (ha : GoodIn big (c :: a)) (hb : GoodIn big b) : GoodIn big (c :: (a ++ b)) := fun w h => (List.mem_cons.mp h).elim (fun e => ha w (List.mem_cons.mpr (Or.inl e))) (fun h => (List.mem_append.mp h).elim (fun h => ha w (List.mem_cons.mpr (Or.inr h))) (hb w))
theorem goodIn_sub {big ws : List Cond} (hm : ∀ w ∈ ws, w ∈ big) (h : ws.all goodWord = true) : GoodIn big ws := fun w hw => ⟨hm w hw, good_of_word (List.all_eq_true.mp h w hw)⟩
/-! ===== END ===== -/

/-! ===== BEGIN new T[n][m]: the outer array a place, the inner ones among the pooled ===== -/
/-- f, but v at every address of l -/
def vr_up {α : Type} (f : Nat → α) (l : List Nat) (v : α) : Nat → α := fun a => if a ∈ l then v else f a
theorem vr_up_in {α : Type} {f : Nat → α} {l : List Nat} {v : α} {a : Nat} (h : a ∈ l) : vr_up f l v a = v := if_pos h
theorem vr_up_ne {α : Type} {f : Nat → α} {l : List Nat} {v : α} {a : Nat} (h : a ∉ l) : vr_up f l v a = f a := if_neg h
theorem vr_rows {L l : List Nat} {f : Nat → va_E} {e : va_E} (h : ∀ a, a ∈ l → a ∉ L) : va_pl L f ++ l.map (fun a => (a, e)) = va_pl (L ++ l) (vr_up f l e) := by
  unfold va_pl
  rw [List.map_append]
  congr 1
  · apply List.map_congr_left
    intro a ha
    rw [vr_up_ne (fun q => h a q ha)]
  · apply List.map_congr_left
    intro a ha
    rw [vr_up_in ha]
theorem vr_lay {X rows : va_W} {x : Nat × va_E} {pl : va_W} {D : va_G} {cl : List vw_C} {H : Heap} (hP : va_P D cl (((X ++ pl) ++ [x]) ++ rows) H) : va_P D cl ((X ++ [x]) ++ (pl ++ rows)) H := by
  rw [List.append_assoc (X ++ pl)] at hP
  have h := va_P.swap hP
  rw [← List.append_assoc X] at h
  have h2 := va_P.swap h
  rw [List.append_assoc (X ++ [x])] at h2
  exact h2
theorem vr_layD {X rows : va_W} {x : Nat × va_E} {pl : va_W} {A : Nat → Prop} (hD : va_D A (((X ++ pl) ++ [x]) ++ rows)) : va_D A ((X ++ [x]) ++ (pl ++ rows)) := by
  rw [List.append_assoc (X ++ pl)] at hD
  have h := va_D.swap hD
  rw [← List.append_assoc X] at h
  have h2 := va_D.swap h
  rw [List.append_assoc (X ++ [x])] at h2
  exact h2
theorem vr_outer (c : ClassId) (N h0 : Nat) : ∀ i : Nat, Jvm.Free.Multi.outerC c N h0 i = arrV c N (fun j => va_rf (if j < i then some (h0 + 1 + j) else none))
  | 0 => by
    show ({ cls := c, slots := Array.replicate N .null, vm := .none } : Cell) = _
    rw [arrV_new]
    refine congrArg (arrV c N) (funext fun j => ?_)
    simp [va_rf]
  | i + 1 => by
    show (Jvm.Free.Multi.outerC c N h0 i).setSlot i (.ref (h0 + 1 + i)) = _
    rw [vr_outer c N h0 i, arrV_store]
    refine congrArg (arrV c N) (funext fun j => ?_)
    by_cases e : j = i
    · subst e
      simp [updV, va_rf]
    · by_cases h : j < i
      · simp [updV, e, h, Nat.lt_succ_of_lt h]
      · simp [updV, e, h, show ¬ j < i + 1 by omega]
section VGM
variable {p : Program} {l : Launch} {e : Env} {R : Room} {s : State} {m : MethodId} {args : Array Value} {below : List Frame} {meth : Method} {c : Code} {H : Heap} {locs : List Loc} {cells slots : Nat} {Q : State → Prop}
variable {cc : ByteArray} {pc : Nat} {ls : Array Slot} {rest : List Value} {D : va_G} {cl : List vw_C} {A : Nat → Prop} {a : Nat} {tys : List (ClassId × FieldType)} {ws : va_W} {H0 : Heap}
theorem va_mna {X : va_W} {L : List Nat} {f : Nat → va_E} {cc : ByteArray} (hexec : p.tables.exec = Jvm.exec) (hb : c.code = cc) {own : String} {index : Nat} {ty : FieldType} {cy : ClassId} (hown : s.vm.findClass own = some m.cls) (hclink : (Cond.classLink own index ("[" ++ (FieldType.array ty).toString)).before args s = true) (hover : va_AOA ty s) (harr : (Cond.arrayClass ty).before args s = true) (hcy : s.vm.findClass (FieldType.array ty).toString = some cy)
    (hK : va_K D cl tys s) (hP : va_P D cl (X ++ va_pl L f) H) (hD : va_D A (X ++ va_pl L f)) (hS : va_S A H0 H locs) (hA : ∀ q, H0.size ≤ q → A q) {n k : Int32} {N' K' : Nat} {z : vp_A} (hn : ¬ n < 0) (hk : ¬ k < 0) (hN : n.toNatClampNeg = N') (hM : k.toNatClampNeg = K')
    (hb1 : N' * 4 ≤ 536870912) (hb2 : K' * componentBytes ty ≤ 536870912) (hb3 : K' ≤ 536870912) (hdf : fits ty (defaultValue ty) = true) (hdd : (defaultValue ty).isDefault = true) (hcells : cells + (1 + N') ≤ R.cells) (hslots : slots + (N' + N' * K') ≤ R.slots) (hz : ∀ c : ClassId, Jvm.Free.Multi.innerC c K' (defaultValue ty) = vp_cell c z) (hdg : decode cc pc = .ok (.multianewarray index 2, 4))
    (kk : ∀ (q : Nat) (r : Nat → Nat) (cA : ClassId) (H1 : Heap), (∀ i j : Nat, i < N' → j < N' → r i = r j → i = j) → (∀ i : Nat, i < N' → r i ∉ L) → va_K D cl (tys ++ [(cA, .array ty)]) s →
      va_P D cl ((X ++ [(q, .inl (cA, N', .inr (.inr (.inr (.inr (fun i => if i < N' then some (r i) else none))))))]) ++ va_pl (L ++ (List.range N').map r) (vr_up f ((List.range N').map r) (.inl (cy, z)))) H1 → va_D A ((X ++ [(q, .inl (cA, N', .inr (.inr (.inr (.inr (fun i => if i < N' then some (r i) else none))))))]) ++ va_pl (L ++ (List.range N').map r) (vr_up f ((List.range N').map r) (.inl (cy, z)))) → va_S A H0 H1 locs →
      W p l e R s m args below meth c H1 locs (cells + 1 + N') (slots + N' + N' * K') Q (F0 m (pc + 4) ls (.ref q :: rest))) : W p l e R s m args below meth c H locs cells slots Q (F0 m pc ls (.int k :: .int n :: rest)) := by
  subst hN
  subst hM
  intro T hT Xs
  obtain ⟨vm₁, cA, comp, -, fA, fC, hO, -, X', step⟩ := Xs.multianewarray2F hexec hown hclink (va_AOA.use hover) harr (g := F0 m pc ls (.int k :: .int n :: rest)) rfl (by rw [hb]; exact hdg) rfl hn hk hb1 hb2 hb3 hdf hdd hcells hslots
  have ec : some cy = some comp := hcy.symm.trans fC
  cases ec
  generalize hF : Jvm.Free.Multi.fill (T.setVm vm₁) cA cy n.toNatClampNeg k.toNatClampNeg (defaultValue ty) n.toNatClampNeg = F at X' step
  have hTh : (T.setVm vm₁).heap = H := hT
  obtain ⟨f1, f2, -, -⟩ := Jvm.Free.Multi.fill_facts (T.setVm vm₁) cA cy n.toNatClampNeg k.toNatClampNeg (defaultValue ty) n.toNatClampNeg
  rw [hF, hTh] at f1 f2
  have hold : ∀ x : Nat, x < H.size → F.heap[x]? = H[x]? := fun x hx => by
    have := Jvm.Free.Multi.fill_old (T.setVm vm₁) cA cy n.toNatClampNeg k.toNatClampNeg (defaultValue ty) (a := x) (by rw [hTh]; exact hx) n.toNatClampNeg
    rw [hF, hTh] at this
    exact this
  have hrow : ∀ j : Nat, j < n.toNatClampNeg → F.heap[H.size + 1 + j]? = some (vp_cell cy z) := fun j hj => by
    have := Jvm.Free.Multi.fill_inner (T.setVm vm₁) cA cy n.toNatClampNeg k.toNatClampNeg (defaultValue ty) n.toNatClampNeg j hj
    rw [hF, hTh, hz] at this
    exact this
  have hout : Jvm.Free.Multi.outerC cA n.toNatClampNeg H.size n.toNatClampNeg = vp_cell cA (n.toNatClampNeg, .inr (.inr (.inr (.inr (fun i => if i < n.toNatClampNeg then some (H.size + 1 + i) else none))))) := by
    rw [vp_cell_q]
    exact vr_outer cA n.toNatClampNeg H.size n.toNatClampNeg
  rw [hout] at f2
  have hlt : ∀ a, a ∈ L → a < H.size := fun a ha => by
    obtain ⟨k9, hk9⟩ := va_pl_get (X := X) (f := f) ha
    exact (hP k9 _ hk9).lt
  have hnl : ∀ i : Nat, i < n.toNatClampNeg → H.size + 1 + i ∉ L := fun i _ h => by
    have := hlt _ h
    omega
  have hnm : ∀ a, a ∈ (List.range n.toNatClampNeg).map (fun i => H.size + 1 + i) → a ∉ L := fun a ha h => by
    obtain ⟨i, -, rfl⟩ := List.mem_map.mp ha
    have := hlt _ h
    omega
  have hP0 : va_P D cl (X ++ va_pl L f) F.heap := hP.kept (fun k9 x hx => hold x.1 ((hP k9 x hx).lt))
  have hP1 : va_P D cl ((X ++ va_pl L f) ++ [(H.size, .inl (cA, n.toNatClampNeg, .inr (.inr (.inr (.inr (fun i => if i < n.toNatClampNeg then some (H.size + 1 + i) else none))))))]) F.heap := hP0.app (fun k9 x hx => by
    have h0 : k9 < 1 := (List.getElem?_eq_some_iff.mp hx).1
    rw [show k9 = 0 by omega] at hx
    cases hx
    exact f2)
  have hP2 : va_P D cl (((X ++ va_pl L f) ++ [(H.size, .inl (cA, n.toNatClampNeg, .inr (.inr (.inr (.inr (fun i => if i < n.toNatClampNeg then some (H.size + 1 + i) else none))))))]) ++ ((List.range n.toNatClampNeg).map (fun i => H.size + 1 + i)).map (fun a => (a, .inl (cy, z)))) F.heap := hP1.app (fun k9 x hx => by
    obtain ⟨a, ha, rfl⟩ := List.mem_map.mp (List.mem_of_getElem? hx)
    obtain ⟨i, hi, rfl⟩ := List.mem_map.mp ha
    exact hrow i (List.mem_range.mp hi))
  have hD2 : va_D A (((X ++ va_pl L f) ++ [(H.size, .inl (cA, n.toNatClampNeg, .inr (.inr (.inr (.inr (fun i => if i < n.toNatClampNeg then some (H.size + 1 + i) else none))))))]) ++ ((List.range n.toNatClampNeg).map (fun i => H.size + 1 + i)).map (fun a => (a, .inl (cy, z)))) := by
    have hD1 := hD.push (e := .inl (cA, n.toNatClampNeg, .inr (.inr (.inr (.inr (fun i => if i < n.toNatClampNeg then some (H.size + 1 + i) else none)))))) hP rfl (hA _ hS.1)
    generalize hW1 : (X ++ va_pl L f) ++ [(H.size, .inl (cA, n.toNatClampNeg, .inr (.inr (.inr (.inr (fun i => if i < n.toNatClampNeg then some (H.size + 1 + i) else none))))))] = W1 at hD1 hP1 ⊢
    have hle : ∀ (k9 : Nat) (x : Nat × va_E), W1[k9]? = some x → x.1 ≤ H.size := fun k9 x hx => by
      rw [← hW1] at hx
      by_cases hl : k9 < (X ++ va_pl L f).length
      · rw [List.getElem?_append_left hl] at hx
        exact Nat.le_of_lt ((hP k9 x hx).lt)
      · rw [List.getElem?_append_right (by omega)] at hx
        have h0 : k9 - (X ++ va_pl L f).length < 1 := (List.getElem?_eq_some_iff.mp hx).1
        rw [show k9 - (X ++ va_pl L f).length = 0 by omega] at hx
        cases hx
        exact Nat.le_refl _
    have hr : ∀ (k9 : Nat) (x : Nat × va_E), (((List.range n.toNatClampNeg).map (fun i => H.size + 1 + i)).map (fun a => ((a, .inl (cy, z)) : Nat × va_E)))[k9]? = some x → x.1 = H.size + 1 + k9 := fun k9 x hx => by
      rw [List.getElem?_map, List.getElem?_map] at hx
      by_cases h9 : k9 < n.toNatClampNeg
      · rw [List.getElem?_range h9] at hx
        cases hx
        rfl
      · have hn0 : (List.range n.toNatClampNeg)[k9]? = none := List.getElem?_eq_none (by rw [List.length_range]; omega)
        rw [hn0] at hx
        cases hx
    refine ⟨fun i j x y hi hj hxy => ?_, fun k9 x hx => ?_⟩
    · by_cases h1 : i < W1.length <;> by_cases h2 : j < W1.length
      · rw [List.getElem?_append_left h1] at hi
        rw [List.getElem?_append_left h2] at hj
        exact hD1.1 i j x y hi hj hxy
      · rw [List.getElem?_append_left h1] at hi
        rw [List.getElem?_append_right (by omega)] at hj
        have := hle _ _ hi
        have := hr _ _ hj
        omega
      · rw [List.getElem?_append_right (by omega)] at hi
        rw [List.getElem?_append_left h2] at hj
        have := hle _ _ hj
        have := hr _ _ hi
        omega
      · rw [List.getElem?_append_right (by omega)] at hi hj
        have := hr _ _ hi
        have := hr _ _ hj
        omega
    · by_cases h1 : k9 < W1.length
      · rw [List.getElem?_append_left h1] at hx
        exact hD1.2 k9 x hx
      · rw [List.getElem?_append_right (by omega)] at hx
        have := hr _ _ hx
        exact hA _ (by have := hS.1; omega)
  have hAr : ArrOfT s cA (.array ty) := fun N9 z9 => by
    obtain ⟨-, k9, hk9, cm9, hkk9⟩ := (hO 0 0 0).1
    exact ⟨(fun q hq => by cases hq), k9, hk9, cm9, hkk9⟩
  have hK2 : va_K D cl (tys ++ [(cA, .array ty)]) s := ⟨hK.1, fun k9 x hx => by
    by_cases hl : k9 < tys.length
    · rw [List.getElem?_append_left hl] at hx
      exact hK.2 k9 x hx
    · rw [List.getElem?_append_right (by omega)] at hx
      have h0 : k9 - tys.length < 1 := (List.getElem?_eq_some_iff.mp hx).1
      rw [show k9 - tys.length = 0 by omega] at hx
      cases hx
      exact ⟨hAr, fA⟩⟩
  obtain ⟨t, a1, b1⟩ := kk H.size (fun i => H.size + 1 + i) cA F.heap (fun i j _ _ h => by have h9 : H.size + 1 + i = H.size + 1 + j := h; omega) hnl hK2 (by rw [← vr_rows hnm]; exact vr_lay hP2) (by rw [← vr_rows hnm]; exact vr_layD hD2) ⟨by rw [f1]; have := hS.1; omega, fun x h1 h2 => (hold x (Nat.lt_of_lt_of_le h1 hS.1)).trans (hS.2.1 x h1 h2), hS.2.2⟩ F rfl X'
  refine ⟨t, step t ?_, b1⟩
  have e : T.heap.size = H.size := by rw [hT]
  rw [e]
  exact a1
end VGM
/-! ===== END ===== -/

/-! ===== BEGIN exceptions that leave a method, and their catching by the caller (launches without stack traces) ===== -/
section VXA
/-! The laws vx_back, vx_callV, vx_callS, vx_callSW, vx_throw0, vx_throwS follow proofs of the library, with one case more: JvmDerived/Free/Laws.lean (Back.of_free), Shelf42/LK1.lean (callV, callS), Shelf/KitTraced.lean (throwNew0V, throwNewS). -/

/-- where a method has thrown q: the class by its name, the cell, what was written, the world -/
def vx_T (XC : String → State → State → Prop) (st : State) (q : Addr) (t : State) (mc ms : Nat) (free : Addr → Prop) : Prop :=
  ∃ (E : String) (ce : Cell) (L : List Loc), XC E st t ∧ t.heap[q]? = some ce ∧ ce.vm = .none ∧ st.vm.findClass E = some ce.cls ∧ st.WarmedH t.vm ∧ st.sameButNew ({ t with vm := st.vm } : State) L mc ms ∧ ∀ z ∈ L, free z.base
def vx_Q (Qc : Array Value → State → Outcome → State → Prop) (XC : String → State → State → Prop) (mc ms : Nat) (free : Addr → Prop) : Array Value → State → Outcome → State → Prop := fun a st o t =>
  (Qc a st o t ∧ ∃ L, FrameEnd st o t L mc ms ∧ ∀ q ∈ L, free q.base) ∨ ∃ q, o = .threw q ∧ vx_T XC st q t mc ms free
/-- a callee that returns or throws -/
def vx_Met (l : Launch) (y : MethodName) (ws : List Cond) (rm : Room) (Pc : Array Value → State → Prop) (Qc : Array Value → State → Outcome → State → Prop) (XC : String → State → State → Prop) (mc ms : Nat) (free : Addr → Prop) : Prop :=
  MetFree l y (headSpec ws rm) Pc (fun _ _ _ _ _ => True) (vx_Q Qc XC mc ms free)
def vx_Post (XC : String → State → State → Prop) (mc ms : Nat) (free : Addr → Prop) : Pt → Array Value → Addr → Pt → Prop := fun A a q B =>
  ∃ (g : JFrame) (mk : MethodId) (t : State) (L : List Loc) (E : String) (ce : Cell), B.U.heap = t.heap ∧ B.U.vm = t.vm ∧ XC E (A.U.calling g mk a) t ∧ t.heap[q]? = some ce ∧ ce.vm = .none ∧ A.U.vm.findClass E = some ce.cls ∧ B.locs = A.locs ++ L ∧ (∀ z ∈ L, free z.base) ∧ B.cells = A.cells + mc ∧ B.slots = A.slots + ms
def vx_Back (l : Launch) (R : Room) (p : Program) (e : Env) (below : List Frame) (s : State) (sargs : Array Value) (y : MethodName) (len W9 : Nat)
    (Pre : Pt → Array Value → Prop) (Post : Pt → Array Value → Option Value → Pt → Prop) (PostX : Pt → Array Value → Addr → Pt → Prop) : Prop :=
  ∀ (m : MethodId) (meth : Method) (c : Code) (A : Pt) (g : JFrame) (ig : Instr) (mk : MethodId) (a : Array Value),
    Stand p l e R s m sargs below meth c A.U A.locs A.cells A.slots → g.method = m → g.locals.size = c.maxLocals → decode c.code g.pc = .ok (ig, len) →
    2 * g.monitorRoom + (g.stack.map fun v => v.category).sum ≤ W9 → A.U.methodNamed? y = some mk → Pre A a →
    (∃ (v : Option Value) (B : Pt), Stand p l e R s m sargs below meth c B.U B.locs B.cells B.slots ∧ Post A a v B ∧
      Steps p.tables e below (doInvoke e (A.U.setTop g) [] mk a).1 (B.U.setTop { g with pc := g.pc + len, stack := v.toList ++ g.stack })) ∨
    (∃ (q : Addr) (B : Pt), Stand p l e R s m sargs below meth c B.U B.locs B.cells B.slots ∧ PostX A a q B ∧
      Steps p.tables e below (doInvoke e (A.U.setTop g) [] mk a).1 ((B.U.setTop g).pushFrame (.throwing q)))
section Payer
variable {l : Launch} {R : Room} {p : Program} {e : Env} {below : List Frame} {s : State} {sargs : Array Value} {y : MethodName} {len W9 : Nat}
theorem vx_back {ws : List Cond} {rm : Room} {Pc : Array Value → State → Prop} {Qc : Array Value → State → Outcome → State → Prop} {XC : String → State → State → Prop} {mc ms : Nat} {free : Addr → Prop} {bytes : ByteArray} {maxL : Nat} {ret : Option FieldType}
    (hM : vx_Met l y ws rm Pc Qc XC mc ms free) (hblind : FrameBlind Pc) (hrc : rm.cells = mc) (hrs : rm.slots = ms)
    (hframes : rm.frames + 1 ≤ R.frames) (hlocals : W9 + (maxL + 11) + rm.locals ≤ R.locals)
    (hws : ∀ w ∈ ws, ∀ a' U, s.WarmedH U.vm → w.before a' U = true) (hcode : Cond.code y bytes maxL ret ∈ ws) (hinit : ∀ a' U, s.WarmedH U.vm → (Cond.initialized y.cls).before a' U = true) :
    vx_Back l R p e below s sargs y len W9 (PreOf R mc ms Pc) (PostOf Qc mc ms free) (vx_Post XC mc ms free) := by
  intro m meth c A g ig mk a X hg hsize hdg hW hn hp
  have h1 : (headSpec ws rm).pre.before a A.U = true := atoms_intro fun w hw => hws w hw _ _ X.warmed
  have h2 : (Cond.code y bytes maxL ret).before a A.U = true := hws _ hcode _ _ X.warmed
  have h3 : (Cond.initialized y.cls).before a A.U = true := hinit _ _ X.warmed
  have h4 : A.cells + (headSpec ws rm).room.cells ≤ R.cells := by rw [show (headSpec ws rm).room.cells = mc from hrc]; exact hp.1
  have h5 : A.slots + (headSpec ws rm).room.slots ≤ R.slots := by rw [show (headSpec ws rm).room.slots = ms from hrs]; exact hp.2.1
  have hPc : Pc a (A.U.calling g mk a) := hblind _ _ _ _ hp.2.2
  obtain ⟨U, Ls, c0, s0⟩ := A
  dsimp only [Pt.U, Pt.locs, Pt.cells, Pt.slots] at h1 h2 h3 h4 h5 X hn hPc ⊢
  obtain ⟨methY, cY, hmY, hcY, -, hlY, -, -, -, -⟩ := Cond.code_spec hn h2
  obtain ⟨kY, hkY, -⟩ := className_of_methodNamed hn
  have hinitY : kY.init = .initialized := Cond.initialized_spec (findClass_of_methodNamed hn) hkY h3
  have h : At U g.method c below := by rw [hg]; exact X.here
  have hlocals9 : W9 + (maxL + 11) + (headSpec ws rm).room.locals ≤ R.locals := hlocals
  have happ : (headSpec ws rm).appliesLoose y e.platform (U.calling g mk a) = true :=
    Spec.appliesLoose_calling (g := g) h hdg hn hkY hinitY
      (X.room_calling (g := g) (R' := (headSpec ws rm).room) hsize hmY hcY hframes (by rw [hlY]; omega) h4 h5) h1
  obtain ⟨mid, hmid⟩ := h.above
  have hfr : (U.setTop g).frames = (.java g :: mid) ++ below := by rw [State.frames_setTop' g h.top, hmid]; rfl
  obtain ⟨o, s₂, hsteps, -, hend, hq⟩ := Steps.callFree hM p X.admits X.cas X.clock (acts := []) hfr happ hPc trivial
  have hq' : vx_Q Qc XC mc ms free a (U.calling g mk a) o s₂ := hq
  rw [State.frames_setTop' g h.top] at hend
  obtain ⟨g₀, hg0⟩ := Option.isSome_iff_exists.mp h.top
  obtain ⟨r, hr⟩ := State.topJava?_eq_some.mp hg0
  have hr' : (({ U with heap := s₂.heap, slotsUsed := s₂.slotsUsed } : State).setVm s₂.vm).frames = .java g₀ :: r := hr
  rcases hq' with ⟨hqc, L, hfe, hL⟩ | ⟨q, rfl, E, ce, L, hx, hce, hcv, hcl, hW₂, hsm, hL⟩
  · obtain ⟨⟨v, rfl⟩, hW₂, e2, q2, q3, q4, q5, q6⟩ := id hfe
    have e3 : s₂ = ({ (U.calling g mk a).setFrames s₂.frames with heap := s₂.heap, slotsUsed := s₂.slotsUsed } : State).setVm s₂.vm := by
      have : s₂ = ({ s₂ with vm := (U.calling g mk a).vm } : State).setVm s₂.vm := rfl
      rw [e2] at this
      exact this
    obtain ⟨c₂, i₂, len₂, hc₂, hd₂, hf₂⟩ := hend
    have hW' : U.WarmedH s₂.vm := hW₂
    have hcc : c₂ = c := by
      have h1 : s₂.code? g.method = U.code? g.method := by
        rw [State.code?_eq, State.code?_eq, hW'.alike.method?]
      exact Option.some.inj (hc₂.symm.trans (h1.trans h.code))
    subst hcc
    have hlen : len₂ = len := by rw [hdg] at hd₂; cases hd₂; rfl
    subst hlen
    have hs₂ : s₂ = (({ U with heap := s₂.heap, slotsUsed := s₂.slotsUsed } : State).setVm s₂.vm).setTop { g with pc := g.pc + len₂, stack := v.toList ++ g.stack } := by
      refine e3.trans ?_
      rw [hf₂, State.calling_eq h.top, State.setFrames_setFrames, State.setTop_of_frames _ hr', hr]
      rfl
    have hsame : U.sameButNew ({ U with heap := s₂.heap, slotsUsed := s₂.slotsUsed } : State) L mc ms := by
      refine ⟨?_, q2, q3, q4, q5, q6⟩
      obtain ⟨t, ht, -⟩ := State.frames_cons hr
      show ({ U with heap := s₂.heap, slotsUsed := s₂.slotsUsed } : State) = { U.setFrames U.frames with heap := s₂.heap, slotsUsed := s₂.slotsUsed }
      rw [State.setFrames_self ht]
    subst hg
    refine Or.inl ⟨v, ⟨(({ U with heap := s₂.heap, slotsUsed := s₂.slotsUsed } : State).setVm s₂.vm), Ls ++ L, c0 + mc, s0 + ms⟩,
      ⟨X.admits, X.cas, X.clock, X.frames, X.room, X.hears, X.method, X.code, (X.here.setHeapUsed s₂.heap s₂.slotsUsed).setVm hW'.alike, X.tail, State.WarmedH.trans X.warmed hW', X.limits, X.bytes, X.same.trans (hsame.setVm s.vm)⟩,
      ⟨g, mk, s₂, L, rfl, rfl, hqc, rfl, hL, rfl, rfl⟩, ?_⟩
    show Steps p.tables e below _ ((({ U with heap := s₂.heap, slotsUsed := s₂.slotsUsed } : State).setVm s₂.vm).setTop { g with pc := g.pc + len₂, stack := v.toList ++ g.stack })
    rw [← hs₂]
    exact hsteps
  · obtain ⟨e2, q2, q3, q4, q5, q6⟩ := id hsm
    have e3 : s₂ = ({ (U.calling g mk a).setFrames s₂.frames with heap := s₂.heap, slotsUsed := s₂.slotsUsed } : State).setVm s₂.vm := by
      have : s₂ = ({ s₂ with vm := (U.calling g mk a).vm } : State).setVm s₂.vm := rfl
      rw [e2] at this
      exact this
    have hf₂ : s₂.frames = .throwing q :: .java g :: U.frames.tail := hend
    have hW' : U.WarmedH s₂.vm := hW₂
    have hs₂ : s₂ = ((({ U with heap := s₂.heap, slotsUsed := s₂.slotsUsed } : State).setVm s₂.vm).setTop g).pushFrame (.throwing q) := by
      refine e3.trans ?_
      rw [hf₂, State.calling_eq h.top, State.setFrames_setFrames, State.pushFrame, State.frames_setTop _ hr', State.setTop_of_frames _ hr', State.setFrames_setFrames, hr]
      rfl
    have hsame : U.sameButNew ({ U with heap := s₂.heap, slotsUsed := s₂.slotsUsed } : State) L mc ms := by
      refine ⟨?_, q2, q3, q4, q5, q6⟩
      obtain ⟨t, ht, -⟩ := State.frames_cons hr
      show ({ U with heap := s₂.heap, slotsUsed := s₂.slotsUsed } : State) = { U.setFrames U.frames with heap := s₂.heap, slotsUsed := s₂.slotsUsed }
      rw [State.setFrames_self ht]
    subst hg
    refine Or.inr ⟨q, ⟨(({ U with heap := s₂.heap, slotsUsed := s₂.slotsUsed } : State).setVm s₂.vm), Ls ++ L, c0 + mc, s0 + ms⟩,
      ⟨X.admits, X.cas, X.clock, X.frames, X.room, X.hears, X.method, X.code, (X.here.setHeapUsed s₂.heap s₂.slotsUsed).setVm hW'.alike, X.tail, State.WarmedH.trans X.warmed hW', X.limits, X.bytes, X.same.trans (hsame.setVm s.vm)⟩,
      ⟨g, mk, s₂, L, E, ce, rfl, rfl, hx, hce, hcv, hcl, rfl, hL, rfl, rfl⟩, ?_⟩
    show Steps p.tables e below _ (((({ U with heap := s₂.heap, slotsUsed := s₂.slotsUsed } : State).setVm s₂.vm).setTop g).pushFrame (.throwing q))
    rw [← hs₂]
    exact hsteps
end Payer
section Calls
variable {p : Program} {l : Launch} {e : Env} {R : Room} {s : State} {m : MethodId} {args : Array Value} {below : List Frame} {meth : Method} {c : Code} {T : State} {locs : List Loc} {cells slots : Nat}
theorem vx_callV (X : Stand p l e R s m args below meth c T locs cells slots) (hexec : p.tables.exec = Jvm.exec) {own C : String} {index : Nat} {y : MethodName} {bytes : ByteArray} {maxL : Nat} {ret : Option FieldType}
    (hown : s.vm.findClass own = some m.cls) (hlink : (Cond.methodLink own index y).before args s = true) (hinst : (Cond.instanceMethod y).before args s = true) (hsel : (Cond.selects C y y).before args s = true)
    (hcode : (Cond.code y bytes maxL ret).before args s = true) (hy : y.cls ≠ "java/lang/invoke/MethodHandle" ∧ y.cls ≠ "java/lang/invoke/VarHandle")
    {W9 : Nat} {Pre : Pt → Array Value → Prop} {Post : Pt → Array Value → Option Value → Pt → Prop} {PostX : Pt → Array Value → Addr → Pt → Prop} (hK : vx_Back l R p e below s args y 3 W9 Pre Post PostX)
    {b : Addr} {cellB : Cell} (hcell : T.heap[b]? = some cellB) (hobj : cellB.vm.isStatics = false) (hcls : s.vm.findClass C = some cellB.cls)
    {g : JFrame} (hg : g.method = m) (hsize : g.locals.size = c.maxLocals) {argsL rest : List Value} (hlen : ∀ sig, parseMethodDescriptor y.desc = some sig → argsL.length = sig.parameters.length)
    (hstack : g.stack = argsL.reverse ++ .ref b :: rest) (hW : 2 * g.monitorRoom + (rest.map fun v => v.category).sum ≤ W9) (hdg : decode c.code g.pc = .ok (.invokevirtual index, 3))
    (hpre : ∀ vm₁, s.WarmedH vm₁ → Pre ⟨T.setVm vm₁, locs, cells, slots⟩ (Value.ref b :: argsL).toArray) :
    (∃ (v : Option Value) (vm₁ : Vm) (B : Pt), s.WarmedH vm₁ ∧ Stand p l e R s m args below meth c B.U B.locs B.cells B.slots ∧ Post ⟨T.setVm vm₁, locs, cells, slots⟩ (Value.ref b :: argsL).toArray v B ∧
      ∀ target, Steps p.tables e below (B.U.setTop { g with pc := g.pc + 3, stack := v.toList ++ rest }) target → Steps p.tables e below (T.setTop g) target) ∨
    (∃ (q : Addr) (vm₁ : Vm) (B : Pt), s.WarmedH vm₁ ∧ Stand p l e R s m args below meth c B.U B.locs B.cells B.slots ∧ PostX ⟨T.setVm vm₁, locs, cells, slots⟩ (Value.ref b :: argsL).toArray q B ∧
      Steps p.tables e below (T.setTop g) ((B.U.setTop { g with stack := rest }).pushFrame (.throwing q))) := by
  obtain ⟨mk, methM, hnamed, hmethM, hstM, habM⟩ := Cond.instanceMethod_spec hinst
  obtain ⟨methM', cM, hmethM', -, -, -, -, -, -, hsigM⟩ := Cond.code_spec hnamed hcode
  cases hmethM.symm.trans hmethM'
  obtain ⟨c2, r2, m2, q1, q2, q3, q4, kP, hkP, hkPi⟩ := Cond.selects_spec hsel
  cases hcls.symm.trans q1
  cases (State.methodFound?_of_named hnamed hy).symm.trans q2
  cases hnamed.symm.trans q3
  have hselP : selectMethod e.platform s.vm cellB.cls mk = .method mk := by rw [Launch.admits_selectMethod X.admits]; exact q4
  obtain ⟨vm₁, X₁, hstep₁⟩ := X.invokevirtual hexec hown hlink hnamed hmethM hstM hkP hkPi hy (a := b) (cell := cellB) hcell
    (fun z h => by rw [h] at hobj; cases hobj) hselP hmethM habM hkP hkPi (g := g) hg (argsL := argsL) (rest := rest) (hlen _ hsigM) hstack hdg
  rcases hK m meth c ⟨T.setVm vm₁, locs, cells, slots⟩ { g with stack := rest } (.invokevirtual index) mk (Value.ref b :: argsL).toArray X₁ hg hsize hdg hW (X₁.named hnamed) (hpre vm₁ X₁.warmed) with ⟨v, B, X', hpost, hsteps⟩ | ⟨q, B, X', hpost, hsteps⟩
  · exact Or.inl ⟨v, vm₁, B, X₁.warmed, X', hpost, fun target h => hstep₁ _ fun acts => by rw [doInvoke_state]; exact hsteps.trans h⟩
  · exact Or.inr ⟨q, vm₁, B, X₁.warmed, X', hpost, hstep₁ _ fun acts => by rw [doInvoke_state]; exact hsteps⟩
theorem vx_callS (X : Stand p l e R s m args below meth c T locs cells slots) (hexec : p.tables.exec = Jvm.exec) {own : String} {index : Nat} {y : MethodName} {bytes : ByteArray} {maxL : Nat} {ret : Option FieldType}
    (hown : s.vm.findClass own = some m.cls) (hlink : (Cond.methodLink own index y).before args s = true) (hstat : (Cond.static y).before args s = true) (hinit : (Cond.initialized y.cls).before args s = true)
    (hcode : (Cond.code y bytes maxL ret).before args s = true) (hy : y.cls ≠ "java/lang/invoke/MethodHandle" ∧ y.cls ≠ "java/lang/invoke/VarHandle")
    {W9 : Nat} {Pre : Pt → Array Value → Prop} {Post : Pt → Array Value → Option Value → Pt → Prop} {PostX : Pt → Array Value → Addr → Pt → Prop} (hK : vx_Back l R p e below s args y 3 W9 Pre Post PostX)
    {g : JFrame} (hg : g.method = m) (hsize : g.locals.size = c.maxLocals) {argsL rest : List Value} (hlen : ∀ sig, parseMethodDescriptor y.desc = some sig → argsL.length = sig.parameters.length)
    (hstack : g.stack = argsL.reverse ++ rest) (hW : 2 * g.monitorRoom + (rest.map fun v => v.category).sum ≤ W9) (hdg : decode c.code g.pc = .ok (.invokestatic index, 3))
    (hpre : ∀ vm₁, s.WarmedH vm₁ → Pre ⟨T.setVm vm₁, locs, cells, slots⟩ argsL.toArray) :
    (∃ (v : Option Value) (vm₁ : Vm) (B : Pt), s.WarmedH vm₁ ∧ Stand p l e R s m args below meth c B.U B.locs B.cells B.slots ∧ Post ⟨T.setVm vm₁, locs, cells, slots⟩ argsL.toArray v B ∧
      ∀ target, Steps p.tables e below (B.U.setTop { g with pc := g.pc + 3, stack := v.toList ++ rest }) target → Steps p.tables e below (T.setTop g) target) ∨
    (∃ (q : Addr) (vm₁ : Vm) (B : Pt), s.WarmedH vm₁ ∧ Stand p l e R s m args below meth c B.U B.locs B.cells B.slots ∧ PostX ⟨T.setVm vm₁, locs, cells, slots⟩ argsL.toArray q B ∧
      Steps p.tables e below (T.setTop g) ((B.U.setTop { g with stack := rest }).pushFrame (.throwing q))) := by
  obtain ⟨mk, hnamed⟩ := Cond.code_named hcode
  obtain ⟨methM, cM, hmethM, -, -, -, -, -, -, hsigM⟩ := Cond.code_spec hnamed hcode
  have hstatic : methM.isStatic = true := Cond.static_spec hnamed hmethM hstat
  obtain ⟨kP, hkP, -⟩ := className_of_methodNamed hnamed
  have hinitP : kP.init = .initialized := Cond.initialized_spec (findClass_of_methodNamed hnamed) hkP hinit
  obtain ⟨vm₁, X₁, hstep₁⟩ := X.invokestatic hexec hown hlink hnamed hmethM hstatic hkP hinitP hy (g := g) hg (argsL := argsL) (rest := rest) (hlen _ hsigM) hstack hdg
  rcases hK m meth c ⟨T.setVm vm₁, locs, cells, slots⟩ { g with stack := rest } (.invokestatic index) mk argsL.toArray X₁ hg hsize hdg hW (X₁.named hnamed) (hpre vm₁ X₁.warmed) with ⟨v, B, X', hpost, hsteps⟩ | ⟨q, B, X', hpost, hsteps⟩
  · exact Or.inl ⟨v, vm₁, B, X₁.warmed, X', hpost, fun target h => hstep₁ _ fun acts => by rw [doInvoke_state]; exact hsteps.trans h⟩
  · exact Or.inr ⟨q, vm₁, B, X₁.warmed, X', hpost, hstep₁ _ fun acts => by rw [doInvoke_state]; exact hsteps⟩
end Calls
theorem vx_cls {s : State} {T : State} {vm₁ : Vm} {E : String} {k : ClassId} (hW : s.WarmedH vm₁) (h : (T.setVm vm₁).vm.findClass E = some k) : s.vm.findClass E = some k := by
  have h1 : vm₁.findClass E = some k := h
  rw [hW.alike.findClass] at h1
  exact h1
/-- the method's frame g, with q thrown over it -/
def vx_W (p : Program) (l : Launch) (e : Env) (R : Room) (s : State) (m : MethodId) (args : Array Value) (below : List Frame) (meth : Method) (c : Code) (H : Heap) (locs : List Loc) (cells slots : Nat) (Q : State → Prop) (g : JFrame) (q : Addr) : Prop :=
  ∀ T : State, T.heap = H → Stand p l e R s m args below meth c T locs cells slots → ∃ t, Steps p.tables e below ((T.setTop g).pushFrame (.throwing q)) t ∧ Q t
def vx_Run (p : Program) (l : Launch) (e : Env) (R : Room) (s : State) (m : MethodId) (args : Array Value) (below : List Frame) (meth : Method) (c : Code) (H : Heap) (locs : List Loc) (cells slots mc ms : Nat) (g : JFrame) (rest : List Value) (Qa : State → Outcome → State → Prop) (XC : String → State → State → Prop) (free : Addr → Prop) : Prop :=
  ∀ T : State, T.heap = H → Stand p l e R s m args below meth c T locs cells slots →
    (∃ (v : Option Value) (st₀ t T' : State) (L : List Loc), st₀.heap = H ∧ Stand p l e R s m args below meth c T' (locs ++ L) (cells + mc) (slots + ms) ∧ (∀ q ∈ L, free q.base) ∧ T'.heap = t.heap ∧ T'.vm = t.vm ∧ Qa st₀ (.returned v) t ∧
      Goes p e below T g T' { g with pc := g.pc + 3, stack := v.toList ++ rest }) ∨
    (∃ (q : Addr) (st₀ t T' : State) (L : List Loc) (E : String) (ce : Cell), st₀.heap = H ∧ Stand p l e R s m args below meth c T' (locs ++ L) (cells + mc) (slots + ms) ∧ (∀ z ∈ L, free z.base) ∧ T'.heap = t.heap ∧ T'.vm = t.vm ∧ XC E st₀ t ∧ t.heap[q]? = some ce ∧ ce.vm = .none ∧ s.vm.findClass E = some ce.cls ∧
      Steps p.tables e below (T.setTop g) ((T'.setTop { g with stack := rest }).pushFrame (.throwing q)))
def vx_X {S : Type} (px : S → Prop) (B : String → S → State → Prop) (A : Nat → Prop) : String → State → State → Prop := fun E st t => ∃ u : S, px u ∧ B E u t ∧ va_F A st t
section Runs
variable {p : Program} {l : Launch} {e : Env} {R : Room} {s : State} {m : MethodId} {args : Array Value} {below : List Frame} {meth : Method} {c : Code} {H : Heap} {locs : List Loc} {cells slots : Nat}
variable {y : MethodName} {bytes cc : ByteArray} {maxL nL mc ms n index : Nat} {ret : Option FieldType} {ws : List Cond} {rm : Room} {Pc : Array Value → State → Prop} {Qc : Array Value → State → Outcome → State → Prop} {XC : String → State → State → Prop} {free : Addr → Prop} {Ts : List Cond} {own C : String} {b : Addr} {As rest : List Value} {g : JFrame}
theorem vx_callBack (cb : CallB R s args own index y bytes maxL ret ws rm mc ms n) (hM : vx_Met l y ws rm Pc Qc XC mc ms free) (hbl : FrameBlind Pc) : vx_Back l R p e below s args y 3 8 (PreOf R mc ms Pc) (PostOf Qc mc ms free) (vx_Post XC mc ms free) := by
  obtain ⟨hrc, hrs, hfr, hlo, hws, hcw, -, hini, -⟩ := cb
  exact vx_back (bytes := bytes) (maxL := maxL) (ret := ret) hM hbl hrc hrs hfr hlo hws hcw (fun a' U hW => word_at hW (Or.inl (by first | rfl | simp [Cond.onTables, Cond.keeps, Cond.steady])) hini)
theorem vx_runV (S : CallFix p m c cc nL s args Ts own) (hM : vx_Met l y ws rm Pc Qc XC mc ms free) (cw : CallW R s args own C index y bytes maxL ret ws rm mc ms n) (hp : PreV s H C b Pc As)
    (hg : g.method = m) (hn : As.length = n) (hsize : g.locals.size = nL) (hstack : g.stack = As.reverse ++ .ref b :: rest) (hW : 2 * g.monitorRoom + (rest.map fun v => v.category).sum ≤ 8) (hdg : decode cc g.pc = .ok (.invokevirtual index, 3)) (hf : cells + mc ≤ R.cells ∧ slots + ms ≤ R.slots) :
    vx_Run p l e R s m args below meth c H locs cells slots mc ms g rest (Qc (Value.ref b :: As).toArray) XC free := by
  have hK : vx_Back l R p e below s args y 3 8 (PreOf R mc ms Pc) (PostOf Qc mc ms free) (vx_Post XC mc ms free) := vx_callBack cw.1 hM hp.1
  obtain ⟨⟨-, -, -, -, -, -, hcode, -, hy, hlen, hl⟩, hin, hse⟩ := cw
  obtain ⟨hx, hb, hml, ho, -⟩ := S
  obtain ⟨-, ⟨cellB, hcB, hoB, hclB⟩, hPc⟩ := hp
  intro T hT X
  rcases vx_callV X hx (C := C) (bytes := bytes) (maxL := maxL) (ret := ret) ho hl hin hse hcode hy hK (by rw [hT]; exact hcB) hoB hclB hg (hsize.trans hml.symm) (argsL := As) (rest := rest) (fun sig h => hn.trans (hlen sig h)) hstack hW (by rw [hb]; exact hdg)
    (fun vm₁ hW₁ => ⟨hf.1, hf.2, hPc (T.setVm vm₁) hT hW₁⟩) with ⟨v, vm₁, ⟨U', l2, c2, s2⟩, hW₁, X', ⟨g', mk, t, L, e1, e2, hq, h1, hL, h2, h3⟩, st⟩ | ⟨q, vm₁, ⟨U', l2, c2, s2⟩, hW₁, X', ⟨g', mk, t, L, E, ce, e1, e2, hq, hce, hcv, hcl, h1, hL, h2, h3⟩, st⟩
  · dsimp only [Pt.U, Pt.locs, Pt.cells, Pt.slots] at X' e1 e2 h1 h2 h3 st
    subst h1; subst h2; subst h3
    exact Or.inl ⟨v, (T.setVm vm₁).calling g' mk (Value.ref b :: As).toArray, t, U', L, hT, X', hL, e1, e2, hq, st⟩
  · dsimp only [Pt.U, Pt.locs, Pt.cells, Pt.slots] at X' e1 e2 h1 h2 h3 st hcl
    subst h1; subst h2; subst h3
    exact Or.inr ⟨q, (T.setVm vm₁).calling g' mk (Value.ref b :: As).toArray, t, U', L, E, ce, hT, X', hL, e1, e2, hq, hce, hcv, vx_cls hW₁ hcl, st⟩
theorem vx_runS (S : CallFix p m c cc nL s args Ts own) (hM : vx_Met l y ws rm Pc Qc XC mc ms free) (cw : CallB R s args own index y bytes maxL ret ws rm mc ms n ∧ (Cond.static y).before args s = true) (hp : PreS s H Pc As)
    (hg : g.method = m) (hn : As.length = n) (hsize : g.locals.size = nL) (hstack : g.stack = As.reverse ++ rest) (hW : 2 * g.monitorRoom + (rest.map fun v => v.category).sum ≤ 8) (hdg : decode cc g.pc = .ok (.invokestatic index, 3)) (hf : cells + mc ≤ R.cells ∧ slots + ms ≤ R.slots) :
    vx_Run p l e R s m args below meth c H locs cells slots mc ms g rest (Qc As.toArray) XC free := by
  have hK : vx_Back l R p e below s args y 3 8 (PreOf R mc ms Pc) (PostOf Qc mc ms free) (vx_Post XC mc ms free) := vx_callBack cw.1 hM hp.1
  obtain ⟨⟨-, -, -, -, -, -, hcode, hini, hy, hlen, hl⟩, hstt⟩ := cw
  obtain ⟨hx, hb, hml, ho, -⟩ := S
  intro T hT X
  rcases vx_callS X hx (bytes := bytes) (maxL := maxL) (ret := ret) ho hl hstt hini hcode hy hK hg (hsize.trans hml.symm) (argsL := As) (rest := rest) (fun sig h => hn.trans (hlen sig h)) hstack hW (by rw [hb]; exact hdg)
    (fun vm₁ hW₁ => ⟨hf.1, hf.2, hp.2 (T.setVm vm₁) hT hW₁⟩) with ⟨v, vm₁, ⟨U', l2, c2, s2⟩, hW₁, X', ⟨g', mk, t, L, e1, e2, hq, h1, hL, h2, h3⟩, st⟩ | ⟨q, vm₁, ⟨U', l2, c2, s2⟩, hW₁, X', ⟨g', mk, t, L, E, ce, e1, e2, hq, hce, hcv, hcl, h1, hL, h2, h3⟩, st⟩
  · dsimp only [Pt.U, Pt.locs, Pt.cells, Pt.slots] at X' e1 e2 h1 h2 h3 st
    subst h1; subst h2; subst h3
    exact Or.inl ⟨v, (T.setVm vm₁).calling g' mk As.toArray, t, U', L, hT, X', hL, e1, e2, hq, st⟩
  · dsimp only [Pt.U, Pt.locs, Pt.cells, Pt.slots] at X' e1 e2 h1 h2 h3 st hcl
    subst h1; subst h2; subst h3
    exact Or.inr ⟨q, (T.setVm vm₁).calling g' mk As.toArray, t, U', L, E, ce, hT, X', hL, e1, e2, hq, hce, hcv, vx_cls hW₁ hcl, st⟩
end Runs
section Rows
variable {p : Program} {l : Launch} {e : Env} {R : Room} {s : State} {m : MethodId} {args : Array Value} {below : List Frame} {meth : Method} {c : Code} {H : Heap} {locs : List Loc} {cells slots : Nat} {Q : State → Prop}
variable {mc ms : Nat} {free : Addr → Prop} {A0 A1 : Nat → Prop} {H0 : Heap} {a : Array Value} {pc : Nat} {ls : Array Slot} {st0 rest : List Value}
theorem vx_keep {st₀ t T' : State} {L : List Loc} (h0 : st₀.heap = H) (e1 : T'.heap = t.heap) (hS : va_S A0 H0 H locs) (hA : ∀ q, q < H.size → A1 q → A0 q) (hf : ∀ q, free q → A0 q) (hL : ∀ q ∈ L, free q.base) (hF : va_F A1 st₀ t) :
    H.size ≤ T'.heap.size ∧ (∀ q : Nat, q < H.size → ¬ A1 q → T'.heap[q]? = H[q]?) ∧ va_S A0 H0 T'.heap (locs ++ L) := by
  obtain ⟨hz, hk⟩ := hF
  rw [h0] at hz hk
  exact ⟨by rw [e1]; exact hz, fun q h1 h2 => by rw [e1]; exact hk q h1 h2,
    ⟨Nat.le_trans hS.1 (by rw [e1]; exact hz), fun q h1 h2 => by rw [e1, hk q (Nat.lt_of_lt_of_le h1 hS.1) (fun z => h2 (hA q (Nat.lt_of_lt_of_le h1 hS.1) z))]; exact hS.2.1 q h1 h2, fun q hq => by
      rcases List.mem_append.mp hq with h | h
      · exact hS.2.2 q h
      · exact hf _ (hL q h)⟩⟩
theorem vx_calli {S SX : Type} {post : Int32 → S → Prop} {px : SX → Prop} {B : S → State → Prop} {BX : String → SX → State → Prop} {AX : Nat → Prop} (hr : vx_Run p l e R s m args below meth c H locs cells slots mc ms (F0 m pc ls st0) rest (va_Qi post B A1 a) (vx_X px BX AX) free) (hS : va_S A0 H0 H locs) (hA : ∀ q, q < H.size → A1 q → A0 q) (hf : ∀ q, free q → A0 q) (hAX : ∀ q, q < H.size → AX q → A0 q)
    (kx : ∀ (E : String) (ce : Cell) (q9 : Addr) (u : SX) (t : State) (H1 : Heap) (locs1 : List Loc), t.heap = H1 → s.vm.Alike t.vm → px u → BX E u t → H.size ≤ H1.size → (∀ q : Nat, q < H.size → ¬ AX q → H1[q]? = H[q]?) → va_S A0 H0 H1 locs1 → H1[q9]? = some ce → ce.vm = .none → s.vm.findClass E = some ce.cls → vx_W p l e R s m args below meth c H1 locs1 (cells + mc) (slots + ms) Q (F0 m pc ls rest) q9)
    (kk : ∀ (r : Int32) (u : S) (t : State) (H1 : Heap) (locs1 : List Loc), t.heap = H1 → s.vm.Alike t.vm → post r u → B u t → H.size ≤ H1.size → (∀ q : Nat, q < H.size → ¬ A1 q → H1[q]? = H[q]?) → va_S A0 H0 H1 locs1 → W p l e R s m args below meth c H1 locs1 (cells + mc) (slots + ms) Q (F0 m (pc + 3) ls (.int r :: rest))) : W p l e R s m args below meth c H locs cells slots Q (F0 m pc ls st0) := by
  intro T hT X
  rcases hr T hT X with ⟨v, st₀, t, T', L, h0, X', hL, e1, e2, ⟨⟨r, u, hv, hp, hb⟩, hF⟩, st⟩ | ⟨q, st₀, t, T', L, E, ce, h0, X', hL, e1, e2, ⟨u, hp, hb, hF⟩, hce, hcv, hcl, st⟩
  · cases hv
    obtain ⟨k1, k2, k3⟩ := vx_keep h0 e1 hS hA hf hL hF
    obtain ⟨t2, a1, b1⟩ := kk r u t T'.heap (locs ++ L) e1.symm (by rw [← e2]; exact X'.warmed.alike) hp hb k1 k2 k3 T' rfl X'
    exact ⟨t2, st t2 a1, b1⟩
  · obtain ⟨k1, k2, k3⟩ := vx_keep h0 e1 hS hAX hf hL hF
    obtain ⟨t2, a1, b1⟩ := kx E ce q u t T'.heap (locs ++ L) e1.symm (by rw [← e2]; exact X'.warmed.alike) hp hb k1 k2 k3 (by rw [e1]; exact hce) hcv hcl T' rfl X'
    exact ⟨t2, st.trans a1, b1⟩
theorem vx_calll {S SX : Type} {post : Int64 → S → Prop} {px : SX → Prop} {B : S → State → Prop} {BX : String → SX → State → Prop} {AX : Nat → Prop} (hr : vx_Run p l e R s m args below meth c H locs cells slots mc ms (F0 m pc ls st0) rest (va_Ql post B A1 a) (vx_X px BX AX) free) (hS : va_S A0 H0 H locs) (hA : ∀ q, q < H.size → A1 q → A0 q) (hf : ∀ q, free q → A0 q) (hAX : ∀ q, q < H.size → AX q → A0 q)
    (kx : ∀ (E : String) (ce : Cell) (q9 : Addr) (u : SX) (t : State) (H1 : Heap) (locs1 : List Loc), t.heap = H1 → s.vm.Alike t.vm → px u → BX E u t → H.size ≤ H1.size → (∀ q : Nat, q < H.size → ¬ AX q → H1[q]? = H[q]?) → va_S A0 H0 H1 locs1 → H1[q9]? = some ce → ce.vm = .none → s.vm.findClass E = some ce.cls → vx_W p l e R s m args below meth c H1 locs1 (cells + mc) (slots + ms) Q (F0 m pc ls rest) q9)
    (kk : ∀ (r : Int64) (u : S) (t : State) (H1 : Heap) (locs1 : List Loc), t.heap = H1 → s.vm.Alike t.vm → post r u → B u t → H.size ≤ H1.size → (∀ q : Nat, q < H.size → ¬ A1 q → H1[q]? = H[q]?) → va_S A0 H0 H1 locs1 → W p l e R s m args below meth c H1 locs1 (cells + mc) (slots + ms) Q (F0 m (pc + 3) ls (.long r :: rest))) : W p l e R s m args below meth c H locs cells slots Q (F0 m pc ls st0) := by
  intro T hT X
  rcases hr T hT X with ⟨v, st₀, t, T', L, h0, X', hL, e1, e2, ⟨⟨r, u, hv, hp, hb⟩, hF⟩, st⟩ | ⟨q, st₀, t, T', L, E, ce, h0, X', hL, e1, e2, ⟨u, hp, hb, hF⟩, hce, hcv, hcl, st⟩
  · cases hv
    obtain ⟨k1, k2, k3⟩ := vx_keep h0 e1 hS hA hf hL hF
    obtain ⟨t2, a1, b1⟩ := kk r u t T'.heap (locs ++ L) e1.symm (by rw [← e2]; exact X'.warmed.alike) hp hb k1 k2 k3 T' rfl X'
    exact ⟨t2, st t2 a1, b1⟩
  · obtain ⟨k1, k2, k3⟩ := vx_keep h0 e1 hS hAX hf hL hF
    obtain ⟨t2, a1, b1⟩ := kx E ce q u t T'.heap (locs ++ L) e1.symm (by rw [← e2]; exact X'.warmed.alike) hp hb k1 k2 k3 (by rw [e1]; exact hce) hcv hcl T' rfl X'
    exact ⟨t2, st.trans a1, b1⟩
theorem vx_callf {S SX : Type} {post : UInt32 → S → Prop} {px : SX → Prop} {B : S → State → Prop} {BX : String → SX → State → Prop} {AX : Nat → Prop} (hr : vx_Run p l e R s m args below meth c H locs cells slots mc ms (F0 m pc ls st0) rest (va_Qf post B A1 a) (vx_X px BX AX) free) (hS : va_S A0 H0 H locs) (hA : ∀ q, q < H.size → A1 q → A0 q) (hf : ∀ q, free q → A0 q) (hAX : ∀ q, q < H.size → AX q → A0 q)
    (kx : ∀ (E : String) (ce : Cell) (q9 : Addr) (u : SX) (t : State) (H1 : Heap) (locs1 : List Loc), t.heap = H1 → s.vm.Alike t.vm → px u → BX E u t → H.size ≤ H1.size → (∀ q : Nat, q < H.size → ¬ AX q → H1[q]? = H[q]?) → va_S A0 H0 H1 locs1 → H1[q9]? = some ce → ce.vm = .none → s.vm.findClass E = some ce.cls → vx_W p l e R s m args below meth c H1 locs1 (cells + mc) (slots + ms) Q (F0 m pc ls rest) q9)
    (kk : ∀ (r : UInt32) (u : S) (t : State) (H1 : Heap) (locs1 : List Loc), t.heap = H1 → s.vm.Alike t.vm → post r u → B u t → H.size ≤ H1.size → (∀ q : Nat, q < H.size → ¬ A1 q → H1[q]? = H[q]?) → va_S A0 H0 H1 locs1 → W p l e R s m args below meth c H1 locs1 (cells + mc) (slots + ms) Q (F0 m (pc + 3) ls (.float r :: rest))) : W p l e R s m args below meth c H locs cells slots Q (F0 m pc ls st0) := by
  intro T hT X
  rcases hr T hT X with ⟨v, st₀, t, T', L, h0, X', hL, e1, e2, ⟨⟨r, u, hv, hp, hb⟩, hF⟩, st⟩ | ⟨q, st₀, t, T', L, E, ce, h0, X', hL, e1, e2, ⟨u, hp, hb, hF⟩, hce, hcv, hcl, st⟩
  · cases hv
    obtain ⟨k1, k2, k3⟩ := vx_keep h0 e1 hS hA hf hL hF
    obtain ⟨t2, a1, b1⟩ := kk r u t T'.heap (locs ++ L) e1.symm (by rw [← e2]; exact X'.warmed.alike) hp hb k1 k2 k3 T' rfl X'
    exact ⟨t2, st t2 a1, b1⟩
  · obtain ⟨k1, k2, k3⟩ := vx_keep h0 e1 hS hAX hf hL hF
    obtain ⟨t2, a1, b1⟩ := kx E ce q u t T'.heap (locs ++ L) e1.symm (by rw [← e2]; exact X'.warmed.alike) hp hb k1 k2 k3 (by rw [e1]; exact hce) hcv hcl T' rfl X'
    exact ⟨t2, st.trans a1, b1⟩
theorem vx_calld {S SX : Type} {post : UInt64 → S → Prop} {px : SX → Prop} {B : S → State → Prop} {BX : String → SX → State → Prop} {AX : Nat → Prop} (hr : vx_Run p l e R s m args below meth c H locs cells slots mc ms (F0 m pc ls st0) rest (va_Qd post B A1 a) (vx_X px BX AX) free) (hS : va_S A0 H0 H locs) (hA : ∀ q, q < H.size → A1 q → A0 q) (hf : ∀ q, free q → A0 q) (hAX : ∀ q, q < H.size → AX q → A0 q)
    (kx : ∀ (E : String) (ce : Cell) (q9 : Addr) (u : SX) (t : State) (H1 : Heap) (locs1 : List Loc), t.heap = H1 → s.vm.Alike t.vm → px u → BX E u t → H.size ≤ H1.size → (∀ q : Nat, q < H.size → ¬ AX q → H1[q]? = H[q]?) → va_S A0 H0 H1 locs1 → H1[q9]? = some ce → ce.vm = .none → s.vm.findClass E = some ce.cls → vx_W p l e R s m args below meth c H1 locs1 (cells + mc) (slots + ms) Q (F0 m pc ls rest) q9)
    (kk : ∀ (r : UInt64) (u : S) (t : State) (H1 : Heap) (locs1 : List Loc), t.heap = H1 → s.vm.Alike t.vm → post r u → B u t → H.size ≤ H1.size → (∀ q : Nat, q < H.size → ¬ A1 q → H1[q]? = H[q]?) → va_S A0 H0 H1 locs1 → W p l e R s m args below meth c H1 locs1 (cells + mc) (slots + ms) Q (F0 m (pc + 3) ls (.double r :: rest))) : W p l e R s m args below meth c H locs cells slots Q (F0 m pc ls st0) := by
  intro T hT X
  rcases hr T hT X with ⟨v, st₀, t, T', L, h0, X', hL, e1, e2, ⟨⟨r, u, hv, hp, hb⟩, hF⟩, st⟩ | ⟨q, st₀, t, T', L, E, ce, h0, X', hL, e1, e2, ⟨u, hp, hb, hF⟩, hce, hcv, hcl, st⟩
  · cases hv
    obtain ⟨k1, k2, k3⟩ := vx_keep h0 e1 hS hA hf hL hF
    obtain ⟨t2, a1, b1⟩ := kk r u t T'.heap (locs ++ L) e1.symm (by rw [← e2]; exact X'.warmed.alike) hp hb k1 k2 k3 T' rfl X'
    exact ⟨t2, st t2 a1, b1⟩
  · obtain ⟨k1, k2, k3⟩ := vx_keep h0 e1 hS hAX hf hL hF
    obtain ⟨t2, a1, b1⟩ := kx E ce q u t T'.heap (locs ++ L) e1.symm (by rw [← e2]; exact X'.warmed.alike) hp hb k1 k2 k3 (by rw [e1]; exact hce) hcv hcl T' rfl X'
    exact ⟨t2, st.trans a1, b1⟩
theorem vx_callv {S SX : Type} {post : S → Prop} {px : SX → Prop} {B : S → State → Prop} {BX : String → SX → State → Prop} {AX : Nat → Prop} (hr : vx_Run p l e R s m args below meth c H locs cells slots mc ms (F0 m pc ls st0) rest (va_Qv post B A1 a) (vx_X px BX AX) free) (hS : va_S A0 H0 H locs) (hA : ∀ q, q < H.size → A1 q → A0 q) (hf : ∀ q, free q → A0 q) (hAX : ∀ q, q < H.size → AX q → A0 q)
    (kx : ∀ (E : String) (ce : Cell) (q9 : Addr) (u : SX) (t : State) (H1 : Heap) (locs1 : List Loc), t.heap = H1 → s.vm.Alike t.vm → px u → BX E u t → H.size ≤ H1.size → (∀ q : Nat, q < H.size → ¬ AX q → H1[q]? = H[q]?) → va_S A0 H0 H1 locs1 → H1[q9]? = some ce → ce.vm = .none → s.vm.findClass E = some ce.cls → vx_W p l e R s m args below meth c H1 locs1 (cells + mc) (slots + ms) Q (F0 m pc ls rest) q9)
    (kk : ∀ (u : S) (t : State) (H1 : Heap) (locs1 : List Loc), t.heap = H1 → s.vm.Alike t.vm → post u → B u t → H.size ≤ H1.size → (∀ q : Nat, q < H.size → ¬ A1 q → H1[q]? = H[q]?) → va_S A0 H0 H1 locs1 → W p l e R s m args below meth c H1 locs1 (cells + mc) (slots + ms) Q (F0 m (pc + 3) ls (rest))) : W p l e R s m args below meth c H locs cells slots Q (F0 m pc ls st0) := by
  intro T hT X
  rcases hr T hT X with ⟨v, st₀, t, T', L, h0, X', hL, e1, e2, ⟨⟨u, hv, hp, hb⟩, hF⟩, st⟩ | ⟨q, st₀, t, T', L, E, ce, h0, X', hL, e1, e2, ⟨u, hp, hb, hF⟩, hce, hcv, hcl, st⟩
  · cases hv
    obtain ⟨k1, k2, k3⟩ := vx_keep h0 e1 hS hA hf hL hF
    obtain ⟨t2, a1, b1⟩ := kk u t T'.heap (locs ++ L) e1.symm (by rw [← e2]; exact X'.warmed.alike) hp hb k1 k2 k3 T' rfl X'
    exact ⟨t2, st t2 a1, b1⟩
  · obtain ⟨k1, k2, k3⟩ := vx_keep h0 e1 hS hAX hf hL hF
    obtain ⟨t2, a1, b1⟩ := kx E ce q u t T'.heap (locs ++ L) e1.symm (by rw [← e2]; exact X'.warmed.alike) hp hb k1 k2 k3 (by rw [e1]; exact hce) hcv hcl T' rfl X'
    exact ⟨t2, st.trans a1, b1⟩
/-- caught by the row x of this method's table; the rows ahead don't take it -/
theorem vx_catch {own name : String} {E : String} {ce : Cell} {q : Addr} (hown : s.vm.findClass own = some m.cls) (pre : List ExceptionTableEntry) (x : ExceptionTableEntry) (suf : List ExceptionTableEntry) (hsplit : c.exceptionTable.toList = pre ++ x :: suf)
    (hpass : ∀ z ∈ pre, covers z pc = false ∨ (z.catchType ≠ 0 ∧ ∃ nm : String, (Cond.classLink own z.catchType nm).before args s = true ∧ va_Nc E nm s)) (hx : covers x pc = true) (h0 : x.catchType ≠ 0)
    (hlink : (Cond.classLink own x.catchType name).before args s = true) (hcast : (Cond.castable E name).before args s = true) (hcell : H[q]? = some ce) (hv : ce.vm = .none) (hcl : s.vm.findClass E = some ce.cls)
    (kk : W p l e R s m args below meth c H locs cells slots Q (F0 m x.handlerPc ls [.ref q])) : vx_W p l e R s m args below meth c H locs cells slots Q (F0 m pc ls rest) q := by
  intro T hT X
  have hpl : e.platform.magicAccessors = ({} : Platform).magicAccessors := by rw [X.admits.platform]
  obtain ⟨c3, c4, hc3, hc4, hasg⟩ := Cond.castable_spec hcast
  cases Option.some.inj (hc3.symm.trans hcl)
  obtain ⟨c5, hc5, hcl5⟩ := Cond.classLink_spec hown hlink e.platform hpl
  cases Option.some.inj (hc4.symm.trans hc5)
  obtain ⟨vm', X', st⟩ := X.thenCaughtThrough q (g := F0 m pc ls rest) rfl (Steps.refl _) (by rw [hT]; exact hcell) (by rw [hv]; rfl) (by obtain ⟨k9, h9, -⟩ := Vm.findClass_spec hcl; exact ⟨k9, h9⟩) pre x suf hsplit
    (fun z hz => by
      rcases hpass z hz with h | ⟨hz0, nm, hl1, hn1⟩
      · exact Or.inl h
      · obtain ⟨c6, hc6, hcl6⟩ := Cond.classLink_spec hown hl1 e.platform hpl
        obtain ⟨a8, b8, h1, h2, h3⟩ := hn1
        cases Option.some.inj (h1.symm.trans hcl)
        cases Option.some.inj (h2.symm.trans hc6)
        exact Or.inr ⟨hz0, _, hcl6, h3⟩) hx (Or.inr ⟨h0, c4, hcl5, hasg⟩)
  obtain ⟨t, a1, b1⟩ := kk (T.setVm vm') hT X'
  exact ⟨t, st.trans a1, b1⟩
end Rows
section Ends
variable {p : Program} {l : Launch} {e : Env} {R : Room} {s : State} {m : MethodId} {args : Array Value} {below : List Frame} {meth : Method} {c : Code} {H : Heap} {locs : List Loc} {cells slots : Nat} {Q : State → Prop}
variable {mc ms : Nat} {free : Addr → Prop} {A0 A1 : Nat → Prop} {H0 : Heap} {a : Array Value} {ls : Array Slot} {st0 rest : List Value}
variable {Qc : Array Value → State → Outcome → State → Prop} {XC : String → State → State → Prop}
/-- what a body that may throw owes at its end -/
def vx_MQ (below : List Frame) (Qc : Array Value → State → Outcome → State → Prop) (XC : String → State → State → Prop) (a : Array Value) (s : State) (mc ms : Nat) (free : Addr → Prop) : State → Prop := fun t =>
  ∃ o, t.status = .running ∧ Ended t below o ∧ vx_Q Qc XC mc ms free a s o t
theorem vx_ret {g : JFrame} {mc ms : Nat} (k : W p l e R s m args below meth c H locs cells slots (MQ below Qc args s mc ms free) g) : W p l e R s m args below meth c H locs cells slots (vx_MQ below Qc XC args s mc ms free) g := by
  intro T hT X
  obtain ⟨t, a1, o, b1, b2, b3, b4⟩ := k T hT X
  exact ⟨t, a1, o, b1, b2, Or.inl ⟨b3, b4⟩⟩
/-- not caught here: it goes on to the caller -/
theorem vx_widen {g : JFrame} {q : Addr} {k n : Nat} (h1 : cells ≤ k) (h2 : slots ≤ n) (kk : vx_W p l e R s m args below meth c H locs k n Q g q) : vx_W p l e R s m args below meth c H locs cells slots Q g q := fun T hT X => kk T hT (stand_widen X h1 h2)
theorem vx_out {pc : Nat} {E : String} {ce : Cell} {q : Addr} {mc ms : Nat} (hout : ∀ x ∈ c.exceptionTable.toList, covers x pc = false) (hlocks : meth.locks = false) (hcell : H[q]? = some ce) (hv : ce.vm = .none) (hcl : s.vm.findClass E = some ce.cls)
    (hx : ∀ t : State, t.heap = H → s.vm.Alike t.vm → XC E s t) (hf : ∀ z ∈ locs, free z.base) (hc : cells ≤ mc) (hs : slots ≤ ms) :
    vx_W p l e R s m args below meth c H locs cells slots (vx_MQ below Qc XC args s mc ms free) (F0 m pc ls rest) q := by
  intro T hT X
  obtain ⟨st1, hrun, hend, hW, hsm⟩ := X.leaveThrown q (g := F0 m pc ls rest) rfl rfl rfl hout hlocks
  have hcell9 : (T.setFrames (.throwing q :: below)).heap[q]? = some ce := by
    show T.heap[q]? = some ce
    rw [hT]; exact hcell
  exact ⟨_, st1, .threw q, hrun, hend, Or.inr ⟨q, rfl, E, ce, locs, hx _ hT hW.alike, hcell9, hv, hcl, hW, hsm.mono hc hs, hf⟩⟩
theorem vx_frame {U : State} {k n : Nat} (h : s.sameButNew ({ U with vm := s.vm } : State) locs k n) : s.heap.size ≤ U.heap.size ∧ ∀ q : Nat, q < s.heap.size → (∀ z ∈ locs, z.base ≠ q) → U.heap[q]? = s.heap[q]? := by
  obtain ⟨-, h2, -, -, -, h6⟩ := h
  refine ⟨h2, fun q hq hz => ?_⟩
  obtain ⟨c9, e1, e2, e3, e4⟩ := h6 q _ (Array.getElem?_eq_getElem hq)
  have hs : c9.slots = (s.heap[q]).slots := Array.ext_getElem? fun i => e4 i fun hm => hz _ hm rfl
  have h9 : c9 = s.heap[q] := by
    rw [hs] at e2
    exact e2
  have e5 : U.heap[q]? = some c9 := e1
  rw [e5, h9, Array.getElem?_eq_getElem hq]
/-- the words of a throw but the four that speak of the heap -/
def vx_no (w : Cond) : Bool := decide (w ≠ .isRef (.static Bundle.tN "UNASSIGNED_STACK" Bundle.steD)) && decide (w ≠ .isRef (.static Bundle.tN "SUPPRESSED_SENTINEL" Bundle.listD)) && decide (w ≠ .laysStatic Bundle.tN "UNASSIGNED_STACK" Bundle.steD) && decide (w ≠ .laysStatic Bundle.tN "SUPPRESSED_SENTINEL" Bundle.listD)
def vx_at0 (own : String) (ic : Nat) (X : String) (names : List String) : List Cond := (Bundle.ownAtoms0 own ic X names).filter vx_no
def vx_atS (own : String) (ic : Nat) (X : String) (names : List String) : List Cond := (Bundle.ownAtoms own ic X names).filter vx_no
/-- a word that the tables alone decide, or a good one -/
def vx_ot (w : Cond) : Bool := w.onTables || goodWord w
theorem vx_ot_at {args a' : Array Value} {s U : State} {w : Cond} (hW : s.WarmedH U.vm) (hvm : s.vm = U.vm) (hg : vx_ot w = true) (h : w.before args s = true) : w.before a' U = true := by
  simp only [vx_ot, Bool.or_eq_true] at hg
  rcases hg with hg | hg
  · exact va_tabs hg hvm h
  · exact word_at hW (good_of_word hg) h
/-- a list's words: the good ones out of the method's own list, the others by premises of their own -/
theorem vx_hat {args : Array Value} {s : State} {L B : List Cond} (h1 : ∀ w ∈ L.filter goodWord, w.before args s = true) (h2 : ∀ w ∈ L.filter (fun w => !goodWord w), w ∈ B) (h3 : ∀ w ∈ B, w.before args s = true) : ∀ w ∈ L, w.before args s = true := by
  intro w hw
  by_cases g : goodWord w = true
  · exact h1 w (List.mem_filter.mpr ⟨hw, g⟩)
  · refine h3 w (h2 w (List.mem_filter.mpr ⟨hw, ?_⟩))
    show (!goodWord w) = true
    cases hgw : goodWord w
    · rfl
    · exact absurd hgw g
theorem vx_c {args : Array Value} {s : State} {w : Cond} {B : List Cond} (h : w.before args s = true) (t : ∀ w ∈ B, w.before args s = true) : ∀ w' ∈ w :: B, w'.before args s = true := fun w' h' => (List.mem_cons.mp h').elim (fun e => by rw [e]; exact h) (t w')
theorem vx_n {args : Array Value} {s : State} : ∀ w ∈ ([] : List Cond), w.before args s = true := fun _ h => nomatch h
theorem vx_own {args : Array Value} {s : State} {L : List Cond} (h1 : ∀ w ∈ L.filter vx_no, w.before args s = true)
    (hU : (Cond.isRef (.static Bundle.tN "UNASSIGNED_STACK" Bundle.steD)).before args s = true) (hN : (Cond.isRef (.static Bundle.tN "SUPPRESSED_SENTINEL" Bundle.listD)).before args s = true)
    (lU : (Cond.laysStatic Bundle.tN "UNASSIGNED_STACK" Bundle.steD).before args s = true) (lN : (Cond.laysStatic Bundle.tN "SUPPRESSED_SENTINEL" Bundle.listD).before args s = true) : ∀ w ∈ L, w.before args s = true := by
  intro w hw
  by_cases e1 : w = .isRef (.static Bundle.tN "UNASSIGNED_STACK" Bundle.steD)
  · rw [e1]; exact hU
  · by_cases e2 : w = .isRef (.static Bundle.tN "SUPPRESSED_SENTINEL" Bundle.listD)
    · rw [e2]; exact hN
    · by_cases e3 : w = .laysStatic Bundle.tN "UNASSIGNED_STACK" Bundle.steD
      · rw [e3]; exact lU
      · by_cases e4 : w = .laysStatic Bundle.tN "SUPPRESSED_SENTINEL" Bundle.listD
        · rw [e4]; exact lN
        · exact h1 w (List.mem_filter.mpr ⟨hw, by unfold vx_no; rw [decide_eq_true e1, decide_eq_true e2, decide_eq_true e3, decide_eq_true e4]; rfl⟩)
/-- where a static field lies, its class's statics cell in H -/
def vx_L (C n d : String) (A : Nat → Prop) (U : State) (H : Heap) : Prop := ∃ (c : ClassId) (k : Class) (i : Nat) (f : Field) (a : Nat) (cell : Cell), U.vm.findClass C = some c ∧ U.fieldFound? C n d = some (c, k, i, f) ∧ f.isStatic = true ∧ k.statics = some a ∧ H[a]? = some cell ∧ cell.vm.isStatics = true ∧ cell.cls = c ∧ f.slot < cell.slots.size ∧ k.staticTypes[f.slot]? = some f.type ∧ ¬ A a
theorem vx_L.moved {C n d : String} {A : Nat → Prop} {u U : State} {H : Heap} (hvm : u.vm.Alike U.vm) (h : vx_L C n d A u H) : vx_L C n d A U H := by
  obtain ⟨c, k, i, f, a, cell, h1, h2, h3, h4, h5, h6, h7, h8, h9, h10⟩ := h
  obtain ⟨k', hi', he⟩ := State.fieldFound?_setVm hvm h2
  exact ⟨c, k', i, f, a, cell, by rw [hvm.findClass]; exact h1, hi', h3, by rw [he]; exact h4, h5, h6, h7, h8, by rw [he]; exact h9, h10⟩
theorem vx_L.kept {C n d : String} {A : Nat → Prop} {U : State} {H H1 : Heap} (h : vx_L C n d A U H) (hq : ∀ a : Nat, a < H.size → ¬ A a → H1[a]? = H[a]?) : vx_L C n d A U H1 := by
  obtain ⟨c, k, i, f, a, cell, h1, h2, h3, h4, h5, h6, h7, h8, h9, h10⟩ := h
  exact ⟨c, k, i, f, a, cell, h1, h2, h3, h4, by rw [hq a (Array.getElem?_eq_some_iff.mp h5).1 h10]; exact h5, h6, h7, h8, h9, h10⟩
theorem vx_L.narrow {C n d : String} {A B : Nat → Prop} {U : State} {H : Heap} (h : vx_L C n d A U H) (hAB : ∀ q, B q → A q) : vx_L C n d B U H := by
  obtain ⟨c, k, i, f, a, cell, h1, h2, h3, h4, h5, h6, h7, h8, h9, h10⟩ := h
  exact ⟨c, k, i, f, a, cell, h1, h2, h3, h4, h5, h6, h7, h8, h9, fun z => h10 (hAB _ z)⟩
theorem vx_L.word {C n d : String} {A : Nat → Prop} {s : State} {args : Array Value} (h : vx_L C n d A s s.heap) : (Cond.laysStatic C n d).before args s = true := by
  obtain ⟨c, k, i, f, a, cell, h1, h2, h3, h4, h5, h6, h7, h8, h9, -⟩ := h
  show (Cond.laysStatic C n d).holds args s none s [] = true
  exact Cond.laysStatic_of h1 h2 h3 h4 h5 h6 h7 h8 h9
/-- .. and what it holds: null or some reference -/
def vx_Zq (C n d : String) (A : Nat → Prop) (U : State) (H : Heap) : Prop := va_Zq C n d A U H ∧ vx_L C n d A U H
theorem vx_Zq.moved {C n d : String} {A : Nat → Prop} {u U : State} {H : Heap} (hvm : u.vm.Alike U.vm) (h : vx_Zq C n d A u H) : vx_Zq C n d A U H := ⟨va_Zq.moved hvm h.1, vx_L.moved hvm h.2⟩
theorem vx_Zq.kept {C n d : String} {A : Nat → Prop} {U : State} {H H1 : Heap} (h : vx_Zq C n d A U H) (hq : ∀ a : Nat, a < H.size → ¬ A a → H1[a]? = H[a]?) : vx_Zq C n d A U H1 := ⟨va_Zq.kept h.1 hq, vx_L.kept h.2 hq⟩
theorem vx_Zq.narrow {C n d : String} {A B : Nat → Prop} {U : State} {H : Heap} (h : vx_Zq C n d A U H) (hAB : ∀ q, B q → A q) : vx_Zq C n d B U H := ⟨va_Zq.narrow h.1 hAB, vx_L.narrow h.2 hAB⟩
theorem vx_Zqof {args : Array Value} {s : State} {C n d : String} {A : Nat → Prop} (hl : (Cond.laysStatic C n d).before args s = true) (hini : (Cond.initialized C).before args s = true) (h : (Cond.isRef (.static C n d)).before args s = true) (hA : ∀ a : Nat, a < s.heap.size → ¬ A a) : vx_Zq C n d A s s.heap := by
  refine ⟨va_Zqof hl hini h hA, ?_⟩
  obtain ⟨c, k, i, f, a, cell, h1, h2, h3, h4, h5, h6, h7, h8, h9⟩ := Cond.laysStatic_spec hl
  exact ⟨c, k, i, f, a, cell, h1, h2, h3, h4, h5, h6, h7, h8, h9, hA a (Array.getElem?_eq_some_iff.mp h5).1⟩
theorem vx_isRef {C n d : String} {v : Value} {A : Nat → Prop} {s : State} {args : Array Value} (h : va_Z C n d v A s s.heap) (hv : v.isRef = true) : (Cond.isRef (.static C n d)).before args s = true := by
  obtain ⟨cf, kf, fi, f, a, cell, h1, h2, h3, h4, h5, h6, h7, -⟩ := h
  have he : (Term.static C n d).eval args s none [] s = some v := by
    simp [Term.eval, State.fieldNamed?, h1, h2, h4, h5, h6, h7]
  simp only [Cond.before, Cond.holds, Cond.value, he]
  cases v <;> simp_all [Value.isRef]
theorem vx_isRefq {C n d : String} {A : Nat → Prop} {s : State} {args : Array Value} (h : va_Zq C n d A s s.heap) : (Cond.isRef (.static C n d)).before args s = true := by
  rcases h with h | ⟨t, h⟩
  · exact vx_isRef h rfl
  · exact vx_isRef h rfl
/-- the same frame, seen from here: as if the method were called anew in this heap -/
theorem vx_rebase {T : State} (X : Stand p l e R s m args below meth c T locs cells slots) {R' : Room} (hf : R'.frames ≤ R.frames) (hl : R'.locals ≤ R.locals) (hc : cells + R'.cells ≤ R.cells) (hs : slots + R'.slots ≤ R.slots) :
    Stand p l e R' ((T.setVm s.vm).setFrames (.invoking m args :: below)) m args below meth c T [] 0 0 := by
  have htop : (T.setVm s.vm).topJava?.isSome := X.here.top
  have hF : ((T.setVm s.vm).setFrames (.invoking m args :: below)).frames = .invoking m args :: below := State.frames_setFrames _ (State.cur_lt_of_top htop)
  obtain ⟨g₀, hg0⟩ := Option.isSome_iff_exists.mp htop
  obtain ⟨r, hr⟩ := State.topJava?_eq_some.mp hg0
  have hl9 : e.platform.stackLimits (T.setVm s.vm).me = e.platform.stackLimits s.me := X.limits
  have hb9 : (T.setVm s.vm).me.stackBytes = s.me.stackBytes := X.bytes
  refine ⟨X.admits, X.cas, X.clock, hF, ?_, X.hears, X.method, X.code, X.here, X.tail, X.warmed, ?_, ?_, ?_⟩
  · have h := X.room
    have hU : ((T.setVm s.vm).setFrames (.invoking m args :: below)).localsInUse = s.localsInUse := by
      rw [State.localsInUse_invoking hF (meth := meth) (c := c) X.method X.code, State.localsInUse_invoking X.frames X.method X.code]
    simp only [State.hasRoom, Bool.and_eq_true, decide_eq_true_eq] at h ⊢
    obtain ⟨⟨⟨⟨h1, h2, h3, h4, h5, h6⟩, h7⟩, h8⟩, h9⟩ := h
    rw [X.frames, List.length_cons] at h2 h3
    have q1 := X.heapSize
    have q2 := X.used
    simp only [hF, hU, List.length_cons, State.stackLimits_setFrames, State.stackBytes_setFrames, hl9, hb9]
    refine ⟨⟨⟨⟨by omega, by omega, by omega, by omega, by omega, h6⟩, ?_⟩, ?_⟩, X.book⟩
    · show T.heap.size + R'.cells ≤ e.platform.maxCells
      omega
    · show T.slotsUsed + R'.slots ≤ e.platform.maxSlots
      omega
  · rw [State.stackLimits_setFrames]; rfl
  · rw [State.stackBytes_setFrames]; rfl
  · refine ⟨?_, Nat.le_refl _, Nat.le_refl _, ?_, ?_, fun a c9 h9 => ⟨c9, h9, rfl, rfl, fun _ _ => rfl⟩⟩
    · obtain ⟨t, ht, -⟩ := State.frames_cons hr
      show T.setVm s.vm = { ((T.setVm s.vm).setFrames (.invoking m args :: below)).setFrames (T.setVm s.vm).frames with heap := T.heap, slotsUsed := T.slotsUsed }
      rw [State.setFrames_setFrames, State.setFrames_self ht]
      rfl
    · show T.slotsUsed = T.slotsUsed + ((T.heap.toList.drop T.heap.size).map (·.slots.size)).sum
      rw [List.drop_eq_nil_of_le (Nat.le_of_eq Array.length_toList)]
      rfl
    · show ((T.heap.toList.drop T.heap.size).map (·.slots.size)).sum ≤ 0
      rw [List.drop_eq_nil_of_le (Nat.le_of_eq Array.length_toList)]
      exact Nat.le_refl _
/-- 'throw new E()': new; dup; invokespecial; athrow -/
theorem vx_throw0 {cc : ByteArray} {pc : Nat} (hexec : p.tables.exec = Jvm.exec) (hb : c.code = cc) (hl : l.stackTraces = false) {own cls : String} {names : List String} {ik ic mc ms : Nat} {A : Nat → Prop}
    (hown : s.vm.findClass own = some m.cls) (hcls : Bundle.fit cls = true) (hnames : ∀ n ∈ names, Bundle.fit n = true)
    (hk : (Cond.classLink own ik cls).before args s = true) (hini : (Cond.initialized cls).before args s = true) (hat : ∀ w ∈ vx_at0 own ic cls names, w.before args s = true)
    (hgood : ∀ w ∈ Cond.classLink own ik cls :: Cond.initialized cls :: vx_at0 own ic cls names, vx_ot w = true)
    (hU : vx_Zq Bundle.tN "UNASSIGNED_STACK" Bundle.steD A s s.heap) (hN : vx_Zq Bundle.tN "SUPPRESSED_SENTINEL" Bundle.listD A s s.heap) (hS : va_S A s.heap H locs) (hsize : ls.size = c.maxLocals)
    (d0 : decode cc pc = .ok (.new ik, 3)) (d3 : decode cc (pc + 3) = .ok (.dup, 1)) (d4 : decode cc (pc + 4) = .ok (.invokespecial ic, 3)) (d7 : decode cc (pc + 7) = .ok (.athrow, 1))
    (hout : ∀ x ∈ c.exceptionTable.toList, covers x (pc + 7) = false)
    (hRframes : names.length + 3 < R.frames) (hRlocals : (rest.map fun v => v.category).sum + (13 * (names.length + 1) + 42) ≤ R.locals) (hRcells : cells + 1 ≤ R.cells) (hRslots : slots + 6 ≤ R.slots) (hlocks : meth.locks = false)
    (hx : ∀ t : State, s.vm.Alike t.vm → H.size ≤ t.heap.size → (∀ q : Nat, q < H.size → t.heap[q]? = H[q]?) → XC cls s t)
    (hf : ∀ z ∈ locs, free z.base) (hc : cells + 1 ≤ mc) (hs : slots + 6 ≤ ms) :
    W p l e R s m args below meth c H locs cells slots (vx_MQ below Qc XC args s mc ms free) (F0 m pc ls rest) := by
  intro T hT X
  have htr : e.platform.stackTraces = false := (show e.platform.stackTraces = l.stackTraces by rw [X.admits.platform]).trans hl
  have Y := vx_rebase X (R' := { frames := R.frames, locals := R.locals, cells := 1, slots := 6 }) (Nat.le_refl _) (Nat.le_refl _) hRcells hRslots
  obtain ⟨s', hA⟩ : ∃ z, z = (T.setVm s.vm).setFrames (.invoking m args :: below) := ⟨_, rfl⟩
  rw [← hA] at Y
  have hvm : s'.vm = s.vm := by rw [hA]; rfl
  have hhp : s'.heap = H := by rw [hA]; exact hT
  have hW0 : s.WarmedH s'.vm := by rw [hvm]; exact State.WarmedH.refl s
  have hat' : ∀ w ∈ vx_at0 own ic cls names, w.before args s' = true := fun w hw => vx_ot_at hW0 hvm.symm (hgood w (List.mem_cons_of_mem _ (List.mem_cons_of_mem _ hw))) (hat w hw)
  have hk' : (Cond.classLink own ik cls).before args s' = true := vx_ot_at hW0 hvm.symm (hgood _ List.mem_cons_self) hk
  have hini' : (Cond.initialized cls).before args s' = true := vx_ot_at hW0 hvm.symm (hgood _ (List.mem_cons_of_mem _ List.mem_cons_self)) hini
  have hU' : vx_Zq Bundle.tN "UNASSIGNED_STACK" Bundle.steD A s' s'.heap := by rw [hhp]; exact vx_Zq.moved hW0.alike (hU.kept hS.2.1)
  have hN' : vx_Zq Bundle.tN "SUPPRESSED_SENTINEL" Bundle.listD A s' s'.heap := by rw [hhp]; exact vx_Zq.moved hW0.alike (hN.kept hS.2.1)
  have h : ∀ w ∈ Bundle.ownAtoms0 own ic cls names, w.before args s' = true := vx_own hat' (vx_isRefq hU'.1) (vx_isRefq hN'.1) hU'.2.word hN'.2.word
  have hown' : s'.vm.findClass own = some m.cls := by rw [hvm]; exact hown
  have hins : (Cond.instantiable cls 6).before args s' = true := h _ (by simp [Bundle.ownAtoms0])
  obtain ⟨vm₁, cX, kX, hfX, hkX, -, -, X₁, st1⟩ := Y.newCold hexec (own := own) (C := cls) (index := ik) (n := 6) hown' hk' hins hini'
    (g := F0 m pc ls rest) rfl (by rw [hb]; exact d0) (Nat.le_refl _) (Nat.le_refl _)
  generalize hT1 : (T.setVm vm₁).pushCell { cls := cX, slots := kX.instanceTypes.map defaultValue, vm := .none } = T1 at X₁ st1
  have hcat : (Value.ref T.heap.size).category = 1 := rfl
  have hcellA : T1.heap[T.heap.size]? = some (freshCell cX kX) := by rw [← hT1]; exact State.heap_pushCell_size _ _
  have d3' : decode c.code (pc + 3) = .ok (.dup, 1) := by rw [hb]; exact d3
  obtain ⟨U, hsteps, hrun, hend, hW, hsame, ce, hce, hO⟩ := X₁.ctorThrow0 hexec htr (own := own) (cls := cls) (names := names) (ic := ic) hown' hcls hnames h (fun x hx => nomatch hx) hfX hkX hcellA (by rw [hhp, hT]; exact Nat.le_refl _)
    (g := { method := m, pc := pc + 4, locals := ls, stack := .ref T.heap.size :: .ref T.heap.size :: rest, locked := none }) rfl hsize rfl rfl (rest := rest) rfl
    (by rw [hb]; exact d4) (by rw [hb]; exact d7) hout hRframes (by simp only [List.map_cons, List.sum_cons, hcat]; omega) hlocks
  obtain ⟨f1, f2⟩ := vx_frame hsame
  rw [hhp] at f1 f2
  have hWs : s.WarmedH U.vm := State.WarmedH.trans hW0 hW
  have hcl : s.vm.findClass cls = some ce.cls := by
    have h9 := hO.cls
    rw [hvm] at h9
    exact h9
  have hall : s.sameButNew ({ U with vm := s.vm } : State) locs mc ms := by
    subst hA
    obtain ⟨e1, e2⟩ := hsame
    rw [State.setFrames_setFrames] at e1
    have h2 : (T.setVm s.vm).sameButNew ({ U with vm := s.vm } : State) [] (0 + 1) (0 + 6) := ⟨e1, e2⟩
    have h3 := X.same.trans h2
    rw [List.append_nil] at h3
    exact h3.mono hc hs
  refine ⟨U, ?_, .threw T.heap.size, hrun, hend, Or.inr ⟨T.heap.size, rfl, cls, ce, locs, hx U hWs.alike f1 (fun q hq => f2 q hq (fun z hz => nomatch hz)), hce, hO.vm, hcl, hWs, hall, hf⟩⟩
  refine st1 _ ?_
  show Steps p.tables e below (T1.setTop { method := m, pc := pc + 3, locals := ls, stack := .ref T.heap.size :: rest, locked := none }) _
  jvm_step X₁.here [X₁.here.top, hexec, d3', Value.category]
  exact hsteps
/-- 'throw new E("text")': new; dup; ldc; invokespecial; athrow -/
theorem vx_throwS {cc : ByteArray} {pc : Nat} (hexec : p.tables.exec = Jvm.exec) (hb : c.code = cc) (hl : l.stackTraces = false) {own cls text : String} {names : List String} {ik is ic mc ms sa : Nat} {A : Nat → Prop}
    (hown : s.vm.findClass own = some m.cls) (hcls : Bundle.fit cls = true) (hnames : ∀ n ∈ names, Bundle.fit n = true)
    (hk : (Cond.classLink own ik cls).before args s = true) (hini : (Cond.initialized cls).before args s = true) (hstr : vk_R own is text sa s) (hat : ∀ w ∈ vx_atS own ic cls names, w.before args s = true)
    (hgood : ∀ w ∈ Cond.classLink own ik cls :: Cond.initialized cls :: vx_atS own ic cls names, vx_ot w = true)
    (hU : vx_Zq Bundle.tN "UNASSIGNED_STACK" Bundle.steD A s s.heap) (hN : vx_Zq Bundle.tN "SUPPRESSED_SENTINEL" Bundle.listD A s s.heap) (hS : va_S A s.heap H locs) (hsize : ls.size = c.maxLocals)
    (d0 : decode cc pc = .ok (.new ik, 3)) (d3 : decode cc (pc + 3) = .ok (.dup, 1)) (d4 : decode cc (pc + 4) = .ok (.ldc is, 2)) (d6 : decode cc (pc + 6) = .ok (.invokespecial ic, 3)) (d9 : decode cc (pc + 9) = .ok (.athrow, 1))
    (hout : ∀ x ∈ c.exceptionTable.toList, covers x (pc + 9) = false)
    (hRframes : names.length + 3 < R.frames) (hRlocals : (rest.map fun v => v.category).sum + (13 * (names.length + 1) + 43) ≤ R.locals) (hRcells : cells + 1 ≤ R.cells) (hRslots : slots + 6 ≤ R.slots) (hlocks : meth.locks = false)
    (hx : ∀ t : State, s.vm.Alike t.vm → H.size ≤ t.heap.size → (∀ q : Nat, q < H.size → t.heap[q]? = H[q]?) → XC cls s t)
    (hf : ∀ z ∈ locs, free z.base) (hc : cells + 1 ≤ mc) (hs : slots + 6 ≤ ms) :
    W p l e R s m args below meth c H locs cells slots (vx_MQ below Qc XC args s mc ms free) (F0 m pc ls rest) := by
  intro T hT X
  have htr : e.platform.stackTraces = false := (show e.platform.stackTraces = l.stackTraces by rw [X.admits.platform]).trans hl
  have Y := vx_rebase X (R' := { frames := R.frames, locals := R.locals, cells := 1, slots := 6 }) (Nat.le_refl _) (Nat.le_refl _) hRcells hRslots
  obtain ⟨s', hA⟩ : ∃ z, z = (T.setVm s.vm).setFrames (.invoking m args :: below) := ⟨_, rfl⟩
  rw [← hA] at Y
  have hvm : s'.vm = s.vm := by rw [hA]; rfl
  have hhp : s'.heap = H := by rw [hA]; exact hT
  have hW0 : s.WarmedH s'.vm := by rw [hvm]; exact State.WarmedH.refl s
  have hat' : ∀ w ∈ vx_atS own ic cls names, w.before args s' = true := fun w hw => vx_ot_at hW0 hvm.symm (hgood w (List.mem_cons_of_mem _ (List.mem_cons_of_mem _ hw))) (hat w hw)
  have hk' : (Cond.classLink own ik cls).before args s' = true := vx_ot_at hW0 hvm.symm (hgood _ List.mem_cons_self) hk
  have hini' : (Cond.initialized cls).before args s' = true := vx_ot_at hW0 hvm.symm (hgood _ (List.mem_cons_of_mem _ List.mem_cons_self)) hini
  have hU' : vx_Zq Bundle.tN "UNASSIGNED_STACK" Bundle.steD A s' s'.heap := by rw [hhp]; exact vx_Zq.moved hW0.alike (hU.kept hS.2.1)
  have hN' : vx_Zq Bundle.tN "SUPPRESSED_SENTINEL" Bundle.listD A s' s'.heap := by rw [hhp]; exact vx_Zq.moved hW0.alike (hN.kept hS.2.1)
  have h : ∀ w ∈ Bundle.ownAtoms own ic cls names, w.before args s' = true := vx_own hat' (vx_isRefq hU'.1) (vx_isRefq hN'.1) hU'.2.word hN'.2.word
  have hown' : s'.vm.findClass own = some m.cls := by rw [hvm]; exact hown
  have hins : (Cond.instantiable cls 6).before args s' = true := h _ (by simp [Bundle.ownAtoms])
  obtain ⟨vm₁, cX, kX, hfX, hkX, -, -, X₁, st1⟩ := Y.newCold hexec (own := own) (C := cls) (index := ik) (n := 6) hown' hk' hins hini'
    (g := F0 m pc ls rest) rfl (by rw [hb]; exact d0) (Nat.le_refl _) (Nat.le_refl _)
  generalize hT1 : (T.setVm vm₁).pushCell { cls := cX, slots := kX.instanceTypes.map defaultValue, vm := .none } = T1 at X₁ st1
  have hcat : (Value.ref T.heap.size).category = 1 := rfl
  have hcellA : T1.heap[T.heap.size]? = some (freshCell cX kX) := by rw [← hT1]; exact State.heap_pushCell_size _ _
  have d3' : decode c.code (pc + 3) = .ok (.dup, 1) := by rw [hb]; exact d3
  have d4' : decode c.code (pc + 4) = .ok (.ldc is, 2) := by rw [hb]; exact d4
  have hstr' : vk_R own is text sa s' := vk_R.warm hW0 hstr
  obtain ⟨U, hsteps, hrun, hend, hW, hsame, ce, hce, hO⟩ := X₁.ctorThrowS hexec htr (own := own) (cls := cls) (names := names) (ic := ic) hown' hcls hnames h (fun x hx => nomatch hx) hfX hkX hcellA (by rw [hhp, hT]; exact Nat.le_refl _) (msg := .ref sa) rfl
    (g := { method := m, pc := pc + 6, locals := ls, stack := .ref sa :: .ref T.heap.size :: .ref T.heap.size :: rest, locked := none }) rfl hsize rfl rfl (rest := rest) rfl
    (by rw [hb]; exact d6) (by rw [hb]; exact d9) hout hRframes (by simp only [List.map_cons, List.sum_cons, hcat]; omega) hlocks
  obtain ⟨f1, f2⟩ := vx_frame hsame
  rw [hhp] at f1 f2
  have hWs : s.WarmedH U.vm := State.WarmedH.trans hW0 hW
  have hcl : s.vm.findClass cls = some ce.cls := by
    have h9 := hO.cls
    rw [hvm] at h9
    exact h9
  have hall : s.sameButNew ({ U with vm := s.vm } : State) locs mc ms := by
    subst hA
    obtain ⟨e1, e2⟩ := hsame
    rw [State.setFrames_setFrames] at e1
    have h2 : (T.setVm s.vm).sameButNew ({ U with vm := s.vm } : State) [] (0 + 1) (0 + 6) := ⟨e1, e2⟩
    have h3 := X.same.trans h2
    rw [List.append_nil] at h3
    exact h3.mono hc hs
  refine ⟨U, ?_, .threw T.heap.size, hrun, hend, Or.inr ⟨T.heap.size, rfl, cls, ce, locs, hx U hWs.alike f1 (fun q hq => f2 q hq (fun z hz => nomatch hz)), hce, hO.vm, hcl, hWs, hall, hf⟩⟩
  refine st1 _ ?_
  show Steps p.tables e below (T1.setTop { method := m, pc := pc + 3, locals := ls, stack := .ref T.heap.size :: rest, locked := none }) _
  jvm_step X₁.here [X₁.here.top, hexec, d3', Value.category]
  exact X₁.ldcString hexec (own := own) (text := text) (index := is) (a := sa) hown' hstr'.1 hstr'.2
    (g := { method := m, pc := pc + 4, locals := ls, stack := .ref T.heap.size :: .ref T.heap.size :: rest, locked := none }) rfl d4' _ hsteps
/-- 'throw new E("text")', the text by a wide index -/
theorem vx_throwSW {cc : ByteArray} {pc : Nat} (hexec : p.tables.exec = Jvm.exec) (hb : c.code = cc) (hl : l.stackTraces = false) {own cls text : String} {names : List String} {ik is ic mc ms sa : Nat} {A : Nat → Prop}
    (hown : s.vm.findClass own = some m.cls) (hcls : Bundle.fit cls = true) (hnames : ∀ n ∈ names, Bundle.fit n = true)
    (hk : (Cond.classLink own ik cls).before args s = true) (hini : (Cond.initialized cls).before args s = true) (hstr : vk_R own is text sa s) (hat : ∀ w ∈ vx_atS own ic cls names, w.before args s = true)
    (hgood : ∀ w ∈ Cond.classLink own ik cls :: Cond.initialized cls :: vx_atS own ic cls names, vx_ot w = true)
    (hU : vx_Zq Bundle.tN "UNASSIGNED_STACK" Bundle.steD A s s.heap) (hN : vx_Zq Bundle.tN "SUPPRESSED_SENTINEL" Bundle.listD A s s.heap) (hS : va_S A s.heap H locs) (hsize : ls.size = c.maxLocals)
    (d0 : decode cc pc = .ok (.new ik, 3)) (d3 : decode cc (pc + 3) = .ok (.dup, 1)) (d4 : decode cc (pc + 4) = .ok (.ldc_w is, 3)) (d7 : decode cc (pc + 7) = .ok (.invokespecial ic, 3)) (d10 : decode cc (pc + 10) = .ok (.athrow, 1))
    (hout : ∀ x ∈ c.exceptionTable.toList, covers x (pc + 10) = false)
    (hRframes : names.length + 3 < R.frames) (hRlocals : (rest.map fun v => v.category).sum + (13 * (names.length + 1) + 43) ≤ R.locals) (hRcells : cells + 1 ≤ R.cells) (hRslots : slots + 6 ≤ R.slots) (hlocks : meth.locks = false)
    (hx : ∀ t : State, s.vm.Alike t.vm → H.size ≤ t.heap.size → (∀ q : Nat, q < H.size → t.heap[q]? = H[q]?) → XC cls s t)
    (hf : ∀ z ∈ locs, free z.base) (hc : cells + 1 ≤ mc) (hs : slots + 6 ≤ ms) :
    W p l e R s m args below meth c H locs cells slots (vx_MQ below Qc XC args s mc ms free) (F0 m pc ls rest) := by
  intro T hT X
  have htr : e.platform.stackTraces = false := (show e.platform.stackTraces = l.stackTraces by rw [X.admits.platform]).trans hl
  have Y := vx_rebase X (R' := { frames := R.frames, locals := R.locals, cells := 1, slots := 6 }) (Nat.le_refl _) (Nat.le_refl _) hRcells hRslots
  obtain ⟨s', hA⟩ : ∃ z, z = (T.setVm s.vm).setFrames (.invoking m args :: below) := ⟨_, rfl⟩
  rw [← hA] at Y
  have hvm : s'.vm = s.vm := by rw [hA]; rfl
  have hhp : s'.heap = H := by rw [hA]; exact hT
  have hW0 : s.WarmedH s'.vm := by rw [hvm]; exact State.WarmedH.refl s
  have hat' : ∀ w ∈ vx_atS own ic cls names, w.before args s' = true := fun w hw => vx_ot_at hW0 hvm.symm (hgood w (List.mem_cons_of_mem _ (List.mem_cons_of_mem _ hw))) (hat w hw)
  have hk' : (Cond.classLink own ik cls).before args s' = true := vx_ot_at hW0 hvm.symm (hgood _ List.mem_cons_self) hk
  have hini' : (Cond.initialized cls).before args s' = true := vx_ot_at hW0 hvm.symm (hgood _ (List.mem_cons_of_mem _ List.mem_cons_self)) hini
  have hU' : vx_Zq Bundle.tN "UNASSIGNED_STACK" Bundle.steD A s' s'.heap := by rw [hhp]; exact vx_Zq.moved hW0.alike (hU.kept hS.2.1)
  have hN' : vx_Zq Bundle.tN "SUPPRESSED_SENTINEL" Bundle.listD A s' s'.heap := by rw [hhp]; exact vx_Zq.moved hW0.alike (hN.kept hS.2.1)
  have h : ∀ w ∈ Bundle.ownAtoms own ic cls names, w.before args s' = true := vx_own hat' (vx_isRefq hU'.1) (vx_isRefq hN'.1) hU'.2.word hN'.2.word
  have hown' : s'.vm.findClass own = some m.cls := by rw [hvm]; exact hown
  have hins : (Cond.instantiable cls 6).before args s' = true := h _ (by simp [Bundle.ownAtoms])
  obtain ⟨vm₁, cX, kX, hfX, hkX, -, -, X₁, st1⟩ := Y.newCold hexec (own := own) (C := cls) (index := ik) (n := 6) hown' hk' hins hini'
    (g := F0 m pc ls rest) rfl (by rw [hb]; exact d0) (Nat.le_refl _) (Nat.le_refl _)
  generalize hT1 : (T.setVm vm₁).pushCell { cls := cX, slots := kX.instanceTypes.map defaultValue, vm := .none } = T1 at X₁ st1
  have hcat : (Value.ref T.heap.size).category = 1 := rfl
  have hcellA : T1.heap[T.heap.size]? = some (freshCell cX kX) := by rw [← hT1]; exact State.heap_pushCell_size _ _
  have d3' : decode c.code (pc + 3) = .ok (.dup, 1) := by rw [hb]; exact d3
  have d4' : decode c.code (pc + 4) = .ok (.ldc_w is, 3) := by rw [hb]; exact d4
  have hstr' : vk_R own is text sa s' := vk_R.warm hW0 hstr
  obtain ⟨U, hsteps, hrun, hend, hW, hsame, ce, hce, hO⟩ := X₁.ctorThrowS hexec htr (own := own) (cls := cls) (names := names) (ic := ic) hown' hcls hnames h (fun x hx => nomatch hx) hfX hkX hcellA (by rw [hhp, hT]; exact Nat.le_refl _) (msg := .ref sa) rfl
    (g := { method := m, pc := pc + 7, locals := ls, stack := .ref sa :: .ref T.heap.size :: .ref T.heap.size :: rest, locked := none }) rfl hsize rfl rfl (rest := rest) rfl
    (by rw [hb]; exact d7) (by rw [hb]; exact d10) hout hRframes (by simp only [List.map_cons, List.sum_cons, hcat]; omega) hlocks
  obtain ⟨f1, f2⟩ := vx_frame hsame
  rw [hhp] at f1 f2
  have hWs : s.WarmedH U.vm := State.WarmedH.trans hW0 hW
  have hcl : s.vm.findClass cls = some ce.cls := by
    have h9 := hO.cls
    rw [hvm] at h9
    exact h9
  have hall : s.sameButNew ({ U with vm := s.vm } : State) locs mc ms := by
    subst hA
    obtain ⟨e1, e2⟩ := hsame
    rw [State.setFrames_setFrames] at e1
    have h2 : (T.setVm s.vm).sameButNew ({ U with vm := s.vm } : State) [] (0 + 1) (0 + 6) := ⟨e1, e2⟩
    have h3 := X.same.trans h2
    rw [List.append_nil] at h3
    exact h3.mono hc hs
  refine ⟨U, ?_, .threw T.heap.size, hrun, hend, Or.inr ⟨T.heap.size, rfl, cls, ce, locs, hx U hWs.alike f1 (fun q hq => f2 q hq (fun z hz => nomatch hz)), hce, hO.vm, hcl, hWs, hall, hf⟩⟩
  refine st1 _ ?_
  show Steps p.tables e below (T1.setTop { method := m, pc := pc + 3, locals := ls, stack := .ref T.heap.size :: rest, locked := none }) _
  jvm_step X₁.here [X₁.here.top, hexec, d3', Value.category]
  exact X₁.ldcStringW hexec (own := own) (text := text) (index := is) (a := sa) hown' hstr'.1 hstr'.2
    (g := { method := m, pc := pc + 4, locals := ls, stack := .ref T.heap.size :: .ref T.heap.size :: rest, locked := none }) rfl d4' _ hsteps
end Ends
section Bodies
variable {l : Launch}
theorem vx_ofW {y : MethodName} {ws ws' : List Cond} {rm : Room} {Pc : Array Value → State → Prop} {Qc : Array Value → State → Outcome → State → Prop} {XC : String → State → State → Prop} {mc ms : Nat} {free : Addr → Prop} {cc : ByteArray} {maxL : Nat} {ret : Option FieldType}
    (hy : plainName y.cls = true) (hw : ws = Cond.code y cc maxL ret :: ws')
    (body : ∀ p e s m args below meth c s₁, BodyLoose p l y (headSpec ws rm) cc maxL ret e s m args below meth c s₁ → c.maxLocals = maxL → (∀ x ∈ c.exceptionTable.toList, False) → Pc args s →
      W p l e (headSpec ws rm).room s m args below meth c s.heap [] 0 0 (vx_MQ below Qc XC args s mc ms free) (entryFrame m args maxL)) : vx_Met l y ws rm Pc Qc XC mc ms free := by
  refine MetFree.of_bodyS (code := cc) (maxLocals := maxL) (ret := ret) hy ?_ ?_
  · intro args s m h hn
    obtain ⟨meth, c, h1, h2, h3, h4, h5, h6, -, -⟩ := Cond.code_spec hn (atoms_spec (ws := ws) h _ (by rw [hw]; exact List.mem_cons_self))
    exact ⟨meth, c, h1, h2, h3, h4, h5, h6⟩
  · intro p e s m args below meth c s₁ B hml hP _
    have hh0 : s₁.heap = s.heap := by rw [B.state]; rfl
    have ht : ∀ x ∈ c.exceptionTable.toList, False := by
      obtain ⟨meth9, c9, h1, h2, -, -, -, -, h7, -⟩ := Cond.code_spec B.named (atoms_spec (ws := ws) B.pre _ (by rw [hw]; exact List.mem_cons_self))
      cases Option.some.inj (h1.symm.trans B.method)
      cases Option.some.inj (h2.symm.trans (Stand.of_body B).code)
      intro x hx
      rw [Array.isEmpty_iff.mp h7] at hx
      cases hx
    obtain ⟨t, a1, o, b1, b2, b3⟩ := body p e s m args below meth c s₁ B hml ht hP s₁ hh0 (Stand.of_body B)
    exact ⟨t, o, a1, b1, b2, b3⟩
/-- the table of a body with handlers -/
theorem vx_table {p : Program} {x y : MethodName} {S : Spec} {cc bytes : ByteArray} {maxL maxL' : Nat} {ret ret' : Option FieldType} {e : Env} {s s₁ : State} {m : MethodId} {args : Array Value} {below : List Frame} {meth : Method} {c : Code} {hh : List (Nat × Nat × Nat × Nat)}
    (B : BodyLoose p l y S cc maxL ret e s m args below meth c s₁) (h : (Cond.codeWith y bytes maxL' ret' hh).before args s = true) : c.exceptionTable.toList = tableOf hh := by
  obtain ⟨m9, meth9, c9, hn9, h1, h2, -, -, h6, -⟩ := Cond.codeWith_spec h
  cases Option.some.inj (hn9.symm.trans B.named)
  cases Option.some.inj (h1.symm.trans B.method)
  cases Option.some.inj (h2.symm.trans (Stand.of_body B).code)
  rw [← h6, table_eq]
end Bodies
end VXA
/-! ===== END ===== -/
/-! ===== BEGIN a static call of a method with an exception table ===== -/
section VXS
variable {p : Program} {l : Launch} {e : Env} {R : Room} {s : State} {m : MethodId} {args : Array Value} {below : List Frame} {meth : Method} {c : Code} {T : State} {H : Heap} {locs : List Loc} {cells slots : Nat}
abbrev vx_CSW (R : Room) (s : State) (args : Array Value) (own : String) (index : Nat) (y : MethodName) (bytes : ByteArray) (maxL : Nat) (ret : Option FieldType) (hh : List (Nat × Nat × Nat × Nat)) (ws : List Cond) (rm : Room) (mc ms n : Nat) : Prop :=
  (rm.cells = mc ∧ rm.slots = ms ∧ rm.frames + 1 ≤ R.frames ∧ 8 + (maxL + 11) + rm.locals ≤ R.locals ∧ (∀ w ∈ ws, ∀ (a' : Array Value) (U : State), s.WarmedH U.vm → w.before a' U = true) ∧ Cond.codeWith y bytes maxL ret hh ∈ ws) ∧
  (Cond.codeWith y bytes maxL ret hh).before args s = true ∧ (Cond.initialized y.cls).before args s = true ∧ (y.cls ≠ "java/lang/invoke/MethodHandle" ∧ y.cls ≠ "java/lang/invoke/VarHandle") ∧
  (∀ sig, parseMethodDescriptor y.desc = some sig → n = sig.parameters.length) ∧ (Cond.methodLink own index y).before args s = true ∧ (Cond.static y).before args s = true
theorem vx_cwSW {own : String} {index maxL mc ms : Nat} {y : MethodName} {bytes : ByteArray} {ret : Option FieldType} {hh : List (Nat × Nat × Nat × Nat)} {Ts ws ws' : List Cond} {rm : Room} (n : Nat) (ht : ∀ w ∈ Ts, w.before args s = true) (hT : GoodIn Ts (va_wsS own index y ws)) (hw : ws = Cond.codeWith y bytes maxL ret hh :: ws') (hrc : rm.cells = mc) (hrs : rm.slots = ms)
    (hd : y.cls ≠ "java/lang/invoke/MethodHandle" ∧ y.cls ≠ "java/lang/invoke/VarHandle" ∧ (parseMethodDescriptor y.desc).map (fun d => d.parameters.length) = some n) (hR : rm.frames + 1 ≤ R.frames ∧ 8 + (maxL + 11) + rm.locals ≤ R.locals) :
    vx_CSW R s args own index y bytes maxL ret hh ws rm mc ms n := by
  have ok : ∀ w ∈ va_wsS own index y ws, w.before args s = true := fun w h => ht w (hT w h).1
  have hG : GoodIn Ts ws := fun w h => hT w (by unfold va_wsS; exact List.mem_append_right _ h)
  have hc : Cond.codeWith y bytes maxL ret hh ∈ ws := by rw [hw]; exact List.mem_cons_self
  refine ⟨⟨hrc, hrs, hR.1, hR.2, pay_in ht hG, hc⟩, ht _ (hG _ hc).1, ok _ (by simp [va_wsS]), ⟨hd.1, hd.2.1⟩, fun sig h => ?_, ok _ (by simp [va_wsS]), ok _ (by simp [va_wsS])⟩
  have h2 := hd.2.2
  rw [h] at h2
  exact (Option.some.inj h2).symm
theorem vx_callSW (X : Stand p l e R s m args below meth c T locs cells slots) (hexec : p.tables.exec = Jvm.exec) {own : String} {index : Nat} {y : MethodName} {bytes : ByteArray} {maxL : Nat} {ret : Option FieldType} {hh : List (Nat × Nat × Nat × Nat)}
    (hown : s.vm.findClass own = some m.cls) (hlink : (Cond.methodLink own index y).before args s = true) (hstat : (Cond.static y).before args s = true) (hinit : (Cond.initialized y.cls).before args s = true)
    (hcode : (Cond.codeWith y bytes maxL ret hh).before args s = true) (hy : y.cls ≠ "java/lang/invoke/MethodHandle" ∧ y.cls ≠ "java/lang/invoke/VarHandle")
    {W9 : Nat} {Pre : Pt → Array Value → Prop} {Post : Pt → Array Value → Option Value → Pt → Prop} (hK : Back l R p e below s args y 3 W9 Pre Post)
    {g : JFrame} (hg : g.method = m) (hsize : g.locals.size = c.maxLocals) {argsL rest : List Value} (hlen : ∀ sig, parseMethodDescriptor y.desc = some sig → argsL.length = sig.parameters.length)
    (hstack : g.stack = argsL.reverse ++ rest) (hW : 2 * g.monitorRoom + (rest.map fun v => v.category).sum ≤ W9) (hdg : decode c.code g.pc = .ok (.invokestatic index, 3))
    (hpre : ∀ vm₁, s.WarmedH vm₁ → Pre ⟨T.setVm vm₁, locs, cells, slots⟩ argsL.toArray) :
    ∃ (v : Option Value) (vm₁ : Vm) (B : Pt), s.WarmedH vm₁ ∧ Stand p l e R s m args below meth c B.U B.locs B.cells B.slots ∧ Post ⟨T.setVm vm₁, locs, cells, slots⟩ argsL.toArray v B ∧
      ∀ target, Steps p.tables e below (B.U.setTop { g with pc := g.pc + 3, stack := v.toList ++ rest }) target → Steps p.tables e below (T.setTop g) target := by
  obtain ⟨mk, methM, cM, hnamed, hmethM, -, -, -, -, -, -, hsigM⟩ := Cond.codeWith_spec hcode
  have hstatic : methM.isStatic = true := Cond.static_spec hnamed hmethM hstat
  obtain ⟨kP, hkP, -⟩ := className_of_methodNamed hnamed
  have hinitP : kP.init = .initialized := Cond.initialized_spec (findClass_of_methodNamed hnamed) hkP hinit
  obtain ⟨vm₁, X₁, hstep₁⟩ := X.invokestatic hexec hown hlink hnamed hmethM hstatic hkP hinitP hy (g := g) hg (argsL := argsL) (rest := rest) (hlen _ hsigM) hstack hdg
  obtain ⟨v, B, X', hpost, hsteps⟩ := hK m meth c ⟨T.setVm vm₁, locs, cells, slots⟩ { g with stack := rest } (.invokestatic index) mk argsL.toArray X₁ hg hsize hdg hW (X₁.named hnamed) (hpre vm₁ X₁.warmed)
  exact ⟨v, vm₁, B, X₁.warmed, X', hpost, fun target h => hstep₁ _ fun acts => by rw [doInvoke_state]; exact hsteps.trans h⟩
theorem vx_runSW {y : MethodName} {bytes cc : ByteArray} {maxL nL mc ms n index : Nat} {ret : Option FieldType} {hh : List (Nat × Nat × Nat × Nat)} {ws : List Cond} {rm : Room} {Pc : Array Value → State → Prop} {Qc : Array Value → State → Outcome → State → Prop} {free : Addr → Prop} {Ts : List Cond} {own : String} {As rest : List Value} {g : JFrame}
    (S : CallFix p m c cc nL s args Ts own) (hM : Met l y ws rm Pc Qc mc ms free) (cw : vx_CSW R s args own index y bytes maxL ret hh ws rm mc ms n) (hp : PreS s H Pc As)
    (hg : g.method = m) (hn : As.length = n) (hsize : g.locals.size = nL) (hstack : g.stack = As.reverse ++ rest) (hW : 2 * g.monitorRoom + (rest.map fun v => v.category).sum ≤ 8) (hdg : decode cc g.pc = .ok (.invokestatic index, 3)) (hf : cells + mc ≤ R.cells ∧ slots + ms ≤ R.slots) :
    va_Run p l e R s m args below meth c H locs cells slots mc ms g rest (Qc As.toArray) (free) := by
  obtain ⟨⟨hrc, hrs, hfr, hlo, hws, hcw⟩, hcode, hini, hy, hlen, hl, hstt⟩ := cw
  have hK : Back l R p e below s args y 3 8 (PreOf R mc ms Pc) (PostOf Qc mc ms free) := va_backW (hh := hh) (bytes := bytes) (maxL := maxL) (ret := ret) hM hp.1 hrc hrs hfr hlo hws hcw (fun a' U hW => word_at hW (Or.inl (by first | rfl | simp [Cond.onTables, Cond.keeps, Cond.steady])) hini)
  obtain ⟨hx, hb, hml, ho, -⟩ := S
  intro T hT X
  obtain ⟨v, vm₁, ⟨U', l2, c2, s2⟩, hW₁, X', ⟨g', mk, t, L, e1, e2, hq, h1, hL, h2, h3⟩, st⟩ := vx_callSW X hx (hh := hh) (bytes := bytes) (maxL := maxL) (ret := ret) ho hl hstt hini hcode hy hK hg (hsize.trans hml.symm) (argsL := As) (rest := rest) (fun sig h => hn.trans (hlen sig h)) hstack hW (by rw [hb]; exact hdg)
    (fun vm₁ hW₁ => ⟨hf.1, hf.2, hp.2 (T.setVm vm₁) hT hW₁⟩)
  dsimp only [Pt.U, Pt.locs, Pt.cells, Pt.slots] at X' e1 e2 h1 h2 h3 st
  subst h1; subst h2; subst h3
  exact ⟨v, (T.setVm vm₁).calling g' mk As.toArray, t, U', L, hT, X', hL, e1, e2, hq, st⟩
/-- not caught here, past rows that name other classes: it goes on to the caller -/
theorem vx_outP {p : Program} {l : Launch} {e : Env} {R : Room} {s : State} {m : MethodId} {args : Array Value} {below : List Frame} {meth : Method} {c : Code} {H : Heap} {locs : List Loc} {cells slots : Nat} {free : Addr → Prop} {ls : Array Slot} {rest : List Value} {Qc : Array Value → State → Outcome → State → Prop} {XC : String → State → State → Prop}
    {pc : Nat} {own E : String} {ce : Cell} {q : Addr} {mc ms : Nat} (hown : s.vm.findClass own = some m.cls) (hlocks : meth.locks = false)
    (hpass : ∀ z ∈ c.exceptionTable.toList, covers z pc = false ∨ (z.catchType ≠ 0 ∧ ∃ nm : String, (Cond.classLink own z.catchType nm).before args s = true ∧ va_Nc E nm s)) (hcell : H[q]? = some ce) (hv : ce.vm = .none) (hcl : s.vm.findClass E = some ce.cls)
    (hx : ∀ t : State, t.heap = H → s.vm.Alike t.vm → XC E s t) (hf : ∀ z ∈ locs, free z.base) (hc : cells ≤ mc) (hs : slots ≤ ms) :
    vx_W p l e R s m args below meth c H locs cells slots (vx_MQ below Qc XC args s mc ms free) (F0 m pc ls rest) q := by
  intro T hT X
  have hpl : e.platform.magicAccessors = ({} : Platform).magicAccessors := by rw [X.admits.platform]
  obtain ⟨vm', hW', X', st⟩ := X.outThrough hlocks q (g := F0 m pc ls rest) rfl rfl rfl (cell := ce) (by rw [hT]; exact hcell) (by rw [hv]; rfl)
    (by obtain ⟨k9, h9, -⟩ := Vm.findClass_spec hcl; exact ⟨k9, h9⟩) (fun z hz => by
      rcases hpass z hz with h | ⟨hz0, nm, hl1, hn1⟩
      · exact Or.inl h
      · obtain ⟨c6, hc6, hcl6⟩ := Cond.classLink_spec hown hl1 e.platform hpl
        obtain ⟨a8, b8, h1, h2, h3⟩ := hn1
        cases Option.some.inj (h1.symm.trans hcl)
        cases Option.some.inj (h2.symm.trans hc6)
        exact Or.inr ⟨hz0, _, hcl6, h3⟩)
  obtain ⟨g₀, hfr⟩ := X'.frames_eq
  have hcell9 : ((T.setVm vm').setFrames (.throwing q :: below)).heap[q]? = some ce := by
    show T.heap[q]? = some ce
    rw [hT]; exact hcell
  have hend : Ended ((T.setVm vm').setFrames (.throwing q :: below)) below (.threw q) := State.frames_setFrames _ (State.cur_lt_of_frames hfr)
  refine ⟨(T.setVm vm').setFrames (.throwing q :: below), ?_, .threw q, X'.here.running, hend, Or.inr ⟨q, rfl, E, ce, locs, hx _ hT (X'.ends _).1.alike, hcell9, hv, hcl, (X'.ends _).1, (X'.ends _).2.mono hc hs, hf⟩⟩
  rw [X.pushThrowing_eq]
  exact st
/-- a thing of a world lies in the heap -/
theorem vx_lt {D : va_G} {cl : List vw_C} {ws : va_W} {H1 : Heap} (h : va_P D cl ws H1) {k : Nat} {q : Nat × va_E} (hk : ws[k]? = some q) : q.1 < H1.size := (h k q hk).lt
end VXS
/-! ===== END ===== -/
/-! ===== BEGIN methods with a table of their own: called by a name, returning or throwing ===== -/
section VXH
/-! vx_backW, vx_callVX, vx_callSX, vx_callVW, vx_runVW, vx_runVX, vx_runSX, vx_ofWH follow the same proofs as their sisters above (Free/Laws.lean, Shelf42/LK1.lean); vx_outP calls Shelf42/NT130.lean (outThrough). -/
section
variable {l : Launch} {R : Room} {p : Program} {e : Env} {below : List Frame} {s : State} {sargs : Array Value} {y : MethodName} {len W9 : Nat}
theorem vx_backW {ws : List Cond} {rm : Room} {Pc : Array Value → State → Prop} {Qc : Array Value → State → Outcome → State → Prop} {XC : String → State → State → Prop} {mc ms : Nat} {free : Addr → Prop} {bytes : ByteArray} {maxL : Nat} {ret : Option FieldType} {hh : List (Nat × Nat × Nat × Nat)}
    (hM : vx_Met l y ws rm Pc Qc XC mc ms free) (hblind : FrameBlind Pc) (hrc : rm.cells = mc) (hrs : rm.slots = ms)
    (hframes : rm.frames + 1 ≤ R.frames) (hlocals : W9 + (maxL + 11) + rm.locals ≤ R.locals)
    (hws : ∀ w ∈ ws, ∀ a' U, s.WarmedH U.vm → w.before a' U = true) (hcode : Cond.codeWith y bytes maxL ret hh ∈ ws) (hinit : ∀ a' U, s.WarmedH U.vm → (Cond.initialized y.cls).before a' U = true) :
    vx_Back l R p e below s sargs y len W9 (PreOf R mc ms Pc) (PostOf Qc mc ms free) (vx_Post XC mc ms free) := by
  intro m meth c A g ig mk a X hg hsize hdg hW hn hp
  have h1 : (headSpec ws rm).pre.before a A.U = true := atoms_intro fun w hw => hws w hw _ _ X.warmed
  have h2 : (Cond.codeWith y bytes maxL ret hh).before a A.U = true := hws _ hcode _ _ X.warmed
  have h3 : (Cond.initialized y.cls).before a A.U = true := hinit _ _ X.warmed
  have h4 : A.cells + (headSpec ws rm).room.cells ≤ R.cells := by rw [show (headSpec ws rm).room.cells = mc from hrc]; exact hp.1
  have h5 : A.slots + (headSpec ws rm).room.slots ≤ R.slots := by rw [show (headSpec ws rm).room.slots = ms from hrs]; exact hp.2.1
  have hPc : Pc a (A.U.calling g mk a) := hblind _ _ _ _ hp.2.2
  obtain ⟨U, Ls, c0, s0⟩ := A
  dsimp only [Pt.U, Pt.locs, Pt.cells, Pt.slots] at h1 h2 h3 h4 h5 X hn hPc ⊢
  obtain ⟨m9, methY, cY, hn9, hmY, hcY, -, hlY, -⟩ := Cond.codeWith_spec h2
  cases Option.some.inj (hn9.symm.trans hn)
  obtain ⟨kY, hkY, -⟩ := className_of_methodNamed hn
  have hinitY : kY.init = .initialized := Cond.initialized_spec (findClass_of_methodNamed hn) hkY h3
  have h : At U g.method c below := by rw [hg]; exact X.here
  have hlocals9 : W9 + (maxL + 11) + (headSpec ws rm).room.locals ≤ R.locals := hlocals
  have happ : (headSpec ws rm).appliesLoose y e.platform (U.calling g mk a) = true :=
    Spec.appliesLoose_calling (g := g) h hdg hn hkY hinitY
      (X.room_calling (g := g) (R' := (headSpec ws rm).room) hsize hmY hcY hframes (by rw [hlY]; omega) h4 h5) h1
  obtain ⟨mid, hmid⟩ := h.above
  have hfr : (U.setTop g).frames = (.java g :: mid) ++ below := by rw [State.frames_setTop' g h.top, hmid]; rfl
  obtain ⟨o, s₂, hsteps, -, hend, hq⟩ := Steps.callFree hM p X.admits X.cas X.clock (acts := []) hfr happ hPc trivial
  have hq' : vx_Q Qc XC mc ms free a (U.calling g mk a) o s₂ := hq
  rw [State.frames_setTop' g h.top] at hend
  obtain ⟨g₀, hg0⟩ := Option.isSome_iff_exists.mp h.top
  obtain ⟨r, hr⟩ := State.topJava?_eq_some.mp hg0
  have hr' : (({ U with heap := s₂.heap, slotsUsed := s₂.slotsUsed } : State).setVm s₂.vm).frames = .java g₀ :: r := hr
  rcases hq' with ⟨hqc, L, hfe, hL⟩ | ⟨q, rfl, E, ce, L, hx, hce, hcv, hcl, hW₂, hsm, hL⟩
  · obtain ⟨⟨v, rfl⟩, hW₂, e2, q2, q3, q4, q5, q6⟩ := id hfe
    have e3 : s₂ = ({ (U.calling g mk a).setFrames s₂.frames with heap := s₂.heap, slotsUsed := s₂.slotsUsed } : State).setVm s₂.vm := by
      have : s₂ = ({ s₂ with vm := (U.calling g mk a).vm } : State).setVm s₂.vm := rfl
      rw [e2] at this
      exact this
    obtain ⟨c₂, i₂, len₂, hc₂, hd₂, hf₂⟩ := hend
    have hW' : U.WarmedH s₂.vm := hW₂
    have hcc : c₂ = c := by
      have h1 : s₂.code? g.method = U.code? g.method := by
        rw [State.code?_eq, State.code?_eq, hW'.alike.method?]
      exact Option.some.inj (hc₂.symm.trans (h1.trans h.code))
    subst hcc
    have hlen : len₂ = len := by rw [hdg] at hd₂; cases hd₂; rfl
    subst hlen
    have hs₂ : s₂ = (({ U with heap := s₂.heap, slotsUsed := s₂.slotsUsed } : State).setVm s₂.vm).setTop { g with pc := g.pc + len₂, stack := v.toList ++ g.stack } := by
      refine e3.trans ?_
      rw [hf₂, State.calling_eq h.top, State.setFrames_setFrames, State.setTop_of_frames _ hr', hr]
      rfl
    have hsame : U.sameButNew ({ U with heap := s₂.heap, slotsUsed := s₂.slotsUsed } : State) L mc ms := by
      refine ⟨?_, q2, q3, q4, q5, q6⟩
      obtain ⟨t, ht, -⟩ := State.frames_cons hr
      show ({ U with heap := s₂.heap, slotsUsed := s₂.slotsUsed } : State) = { U.setFrames U.frames with heap := s₂.heap, slotsUsed := s₂.slotsUsed }
      rw [State.setFrames_self ht]
    subst hg
    refine Or.inl ⟨v, ⟨(({ U with heap := s₂.heap, slotsUsed := s₂.slotsUsed } : State).setVm s₂.vm), Ls ++ L, c0 + mc, s0 + ms⟩,
      ⟨X.admits, X.cas, X.clock, X.frames, X.room, X.hears, X.method, X.code, (X.here.setHeapUsed s₂.heap s₂.slotsUsed).setVm hW'.alike, X.tail, State.WarmedH.trans X.warmed hW', X.limits, X.bytes, X.same.trans (hsame.setVm s.vm)⟩,
      ⟨g, mk, s₂, L, rfl, rfl, hqc, rfl, hL, rfl, rfl⟩, ?_⟩
    show Steps p.tables e below _ ((({ U with heap := s₂.heap, slotsUsed := s₂.slotsUsed } : State).setVm s₂.vm).setTop { g with pc := g.pc + len₂, stack := v.toList ++ g.stack })
    rw [← hs₂]
    exact hsteps
  · obtain ⟨e2, q2, q3, q4, q5, q6⟩ := id hsm
    have e3 : s₂ = ({ (U.calling g mk a).setFrames s₂.frames with heap := s₂.heap, slotsUsed := s₂.slotsUsed } : State).setVm s₂.vm := by
      have : s₂ = ({ s₂ with vm := (U.calling g mk a).vm } : State).setVm s₂.vm := rfl
      rw [e2] at this
      exact this
    have hf₂ : s₂.frames = .throwing q :: .java g :: U.frames.tail := hend
    have hW' : U.WarmedH s₂.vm := hW₂
    have hs₂ : s₂ = ((({ U with heap := s₂.heap, slotsUsed := s₂.slotsUsed } : State).setVm s₂.vm).setTop g).pushFrame (.throwing q) := by
      refine e3.trans ?_
      rw [hf₂, State.calling_eq h.top, State.setFrames_setFrames, State.pushFrame, State.frames_setTop _ hr', State.setTop_of_frames _ hr', State.setFrames_setFrames, hr]
      rfl
    have hsame : U.sameButNew ({ U with heap := s₂.heap, slotsUsed := s₂.slotsUsed } : State) L mc ms := by
      refine ⟨?_, q2, q3, q4, q5, q6⟩
      obtain ⟨t, ht, -⟩ := State.frames_cons hr
      show ({ U with heap := s₂.heap, slotsUsed := s₂.slotsUsed } : State) = { U.setFrames U.frames with heap := s₂.heap, slotsUsed := s₂.slotsUsed }
      rw [State.setFrames_self ht]
    subst hg
    refine Or.inr ⟨q, ⟨(({ U with heap := s₂.heap, slotsUsed := s₂.slotsUsed } : State).setVm s₂.vm), Ls ++ L, c0 + mc, s0 + ms⟩,
      ⟨X.admits, X.cas, X.clock, X.frames, X.room, X.hears, X.method, X.code, (X.here.setHeapUsed s₂.heap s₂.slotsUsed).setVm hW'.alike, X.tail, State.WarmedH.trans X.warmed hW', X.limits, X.bytes, X.same.trans (hsame.setVm s.vm)⟩,
      ⟨g, mk, s₂, L, E, ce, rfl, rfl, hx, hce, hcv, hcl, rfl, hL, rfl, rfl⟩, ?_⟩
    show Steps p.tables e below _ (((({ U with heap := s₂.heap, slotsUsed := s₂.slotsUsed } : State).setVm s₂.vm).setTop g).pushFrame (.throwing q))
    rw [← hs₂]
    exact hsteps
end
variable {p : Program} {l : Launch} {e : Env} {R : Room} {s : State} {m : MethodId} {args : Array Value} {below : List Frame} {meth : Method} {c : Code} {T : State} {H : Heap} {locs : List Loc} {cells slots : Nat}
theorem vx_callVX (X : Stand p l e R s m args below meth c T locs cells slots) (hexec : p.tables.exec = Jvm.exec) {own C : String} {index : Nat} {y : MethodName} {bytes : ByteArray} {maxL : Nat} {ret : Option FieldType} {hh : List (Nat × Nat × Nat × Nat)}
    (hown : s.vm.findClass own = some m.cls) (hlink : (Cond.methodLink own index y).before args s = true) (hinst : (Cond.instanceMethod y).before args s = true) (hsel : (Cond.selects C y y).before args s = true)
    (hcode : (Cond.codeWith y bytes maxL ret hh).before args s = true) (hy : y.cls ≠ "java/lang/invoke/MethodHandle" ∧ y.cls ≠ "java/lang/invoke/VarHandle")
    {W9 : Nat} {Pre : Pt → Array Value → Prop} {Post : Pt → Array Value → Option Value → Pt → Prop} {PostX : Pt → Array Value → Addr → Pt → Prop} (hK : vx_Back l R p e below s args y 3 W9 Pre Post PostX)
    {b : Addr} {cellB : Cell} (hcell : T.heap[b]? = some cellB) (hobj : cellB.vm.isStatics = false) (hcls : s.vm.findClass C = some cellB.cls)
    {g : JFrame} (hg : g.method = m) (hsize : g.locals.size = c.maxLocals) {argsL rest : List Value} (hlen : ∀ sig, parseMethodDescriptor y.desc = some sig → argsL.length = sig.parameters.length)
    (hstack : g.stack = argsL.reverse ++ .ref b :: rest) (hW : 2 * g.monitorRoom + (rest.map fun v => v.category).sum ≤ W9) (hdg : decode c.code g.pc = .ok (.invokevirtual index, 3))
    (hpre : ∀ vm₁, s.WarmedH vm₁ → Pre ⟨T.setVm vm₁, locs, cells, slots⟩ (Value.ref b :: argsL).toArray) :
    (∃ (v : Option Value) (vm₁ : Vm) (B : Pt), s.WarmedH vm₁ ∧ Stand p l e R s m args below meth c B.U B.locs B.cells B.slots ∧ Post ⟨T.setVm vm₁, locs, cells, slots⟩ (Value.ref b :: argsL).toArray v B ∧
      ∀ target, Steps p.tables e below (B.U.setTop { g with pc := g.pc + 3, stack := v.toList ++ rest }) target → Steps p.tables e below (T.setTop g) target) ∨
    (∃ (q : Addr) (vm₁ : Vm) (B : Pt), s.WarmedH vm₁ ∧ Stand p l e R s m args below meth c B.U B.locs B.cells B.slots ∧ PostX ⟨T.setVm vm₁, locs, cells, slots⟩ (Value.ref b :: argsL).toArray q B ∧
      Steps p.tables e below (T.setTop g) ((B.U.setTop { g with stack := rest }).pushFrame (.throwing q))) := by
  obtain ⟨mk, methM, hnamed, hmethM, hstM, habM⟩ := Cond.instanceMethod_spec hinst
  obtain ⟨m8, methM', cM, hn8, hmethM', -, -, -, -, -, -, hsigM⟩ := Cond.codeWith_spec hcode
  cases Option.some.inj (hn8.symm.trans hnamed)
  cases hmethM.symm.trans hmethM'
  obtain ⟨c2, r2, m2, q1, q2, q3, q4, kP, hkP, hkPi⟩ := Cond.selects_spec hsel
  cases hcls.symm.trans q1
  cases (State.methodFound?_of_named hnamed hy).symm.trans q2
  cases hnamed.symm.trans q3
  have hselP : selectMethod e.platform s.vm cellB.cls mk = .method mk := by rw [Launch.admits_selectMethod X.admits]; exact q4
  obtain ⟨vm₁, X₁, hstep₁⟩ := X.invokevirtual hexec hown hlink hnamed hmethM hstM hkP hkPi hy (a := b) (cell := cellB) hcell
    (fun z h => by rw [h] at hobj; cases hobj) hselP hmethM habM hkP hkPi (g := g) hg (argsL := argsL) (rest := rest) (hlen _ hsigM) hstack hdg
  rcases hK m meth c ⟨T.setVm vm₁, locs, cells, slots⟩ { g with stack := rest } (.invokevirtual index) mk (Value.ref b :: argsL).toArray X₁ hg hsize hdg hW (X₁.named hnamed) (hpre vm₁ X₁.warmed) with ⟨v, B, X', hpost, hsteps⟩ | ⟨q, B, X', hpost, hsteps⟩
  · exact Or.inl ⟨v, vm₁, B, X₁.warmed, X', hpost, fun target h => hstep₁ _ fun acts => by rw [doInvoke_state]; exact hsteps.trans h⟩
  · exact Or.inr ⟨q, vm₁, B, X₁.warmed, X', hpost, hstep₁ _ fun acts => by rw [doInvoke_state]; exact hsteps⟩
theorem vx_callSX (X : Stand p l e R s m args below meth c T locs cells slots) (hexec : p.tables.exec = Jvm.exec) {own : String} {index : Nat} {y : MethodName} {bytes : ByteArray} {maxL : Nat} {ret : Option FieldType} {hh : List (Nat × Nat × Nat × Nat)}
    (hown : s.vm.findClass own = some m.cls) (hlink : (Cond.methodLink own index y).before args s = true) (hstat : (Cond.static y).before args s = true) (hinit : (Cond.initialized y.cls).before args s = true)
    (hcode : (Cond.codeWith y bytes maxL ret hh).before args s = true) (hy : y.cls ≠ "java/lang/invoke/MethodHandle" ∧ y.cls ≠ "java/lang/invoke/VarHandle")
    {W9 : Nat} {Pre : Pt → Array Value → Prop} {Post : Pt → Array Value → Option Value → Pt → Prop} {PostX : Pt → Array Value → Addr → Pt → Prop} (hK : vx_Back l R p e below s args y 3 W9 Pre Post PostX)
    {g : JFrame} (hg : g.method = m) (hsize : g.locals.size = c.maxLocals) {argsL rest : List Value} (hlen : ∀ sig, parseMethodDescriptor y.desc = some sig → argsL.length = sig.parameters.length)
    (hstack : g.stack = argsL.reverse ++ rest) (hW : 2 * g.monitorRoom + (rest.map fun v => v.category).sum ≤ W9) (hdg : decode c.code g.pc = .ok (.invokestatic index, 3))
    (hpre : ∀ vm₁, s.WarmedH vm₁ → Pre ⟨T.setVm vm₁, locs, cells, slots⟩ argsL.toArray) :
    (∃ (v : Option Value) (vm₁ : Vm) (B : Pt), s.WarmedH vm₁ ∧ Stand p l e R s m args below meth c B.U B.locs B.cells B.slots ∧ Post ⟨T.setVm vm₁, locs, cells, slots⟩ argsL.toArray v B ∧
      ∀ target, Steps p.tables e below (B.U.setTop { g with pc := g.pc + 3, stack := v.toList ++ rest }) target → Steps p.tables e below (T.setTop g) target) ∨
    (∃ (q : Addr) (vm₁ : Vm) (B : Pt), s.WarmedH vm₁ ∧ Stand p l e R s m args below meth c B.U B.locs B.cells B.slots ∧ PostX ⟨T.setVm vm₁, locs, cells, slots⟩ argsL.toArray q B ∧
      Steps p.tables e below (T.setTop g) ((B.U.setTop { g with stack := rest }).pushFrame (.throwing q))) := by
  obtain ⟨mk, methM, cM, hnamed, hmethM, -, -, -, -, -, -, hsigM⟩ := Cond.codeWith_spec hcode
  have hstatic : methM.isStatic = true := Cond.static_spec hnamed hmethM hstat
  obtain ⟨kP, hkP, -⟩ := className_of_methodNamed hnamed
  have hinitP : kP.init = .initialized := Cond.initialized_spec (findClass_of_methodNamed hnamed) hkP hinit
  obtain ⟨vm₁, X₁, hstep₁⟩ := X.invokestatic hexec hown hlink hnamed hmethM hstatic hkP hinitP hy (g := g) hg (argsL := argsL) (rest := rest) (hlen _ hsigM) hstack hdg
  rcases hK m meth c ⟨T.setVm vm₁, locs, cells, slots⟩ { g with stack := rest } (.invokestatic index) mk argsL.toArray X₁ hg hsize hdg hW (X₁.named hnamed) (hpre vm₁ X₁.warmed) with ⟨v, B, X', hpost, hsteps⟩ | ⟨q, B, X', hpost, hsteps⟩
  · exact Or.inl ⟨v, vm₁, B, X₁.warmed, X', hpost, fun target h => hstep₁ _ fun acts => by rw [doInvoke_state]; exact hsteps.trans h⟩
  · exact Or.inr ⟨q, vm₁, B, X₁.warmed, X', hpost, hstep₁ _ fun acts => by rw [doInvoke_state]; exact hsteps⟩
theorem vx_callVW (X : Stand p l e R s m args below meth c T locs cells slots) (hexec : p.tables.exec = Jvm.exec) {own C : String} {index : Nat} {y : MethodName} {bytes : ByteArray} {maxL : Nat} {ret : Option FieldType} {hh : List (Nat × Nat × Nat × Nat)}
    (hown : s.vm.findClass own = some m.cls) (hlink : (Cond.methodLink own index y).before args s = true) (hinst : (Cond.instanceMethod y).before args s = true) (hsel : (Cond.selects C y y).before args s = true)
    (hcode : (Cond.codeWith y bytes maxL ret hh).before args s = true) (hy : y.cls ≠ "java/lang/invoke/MethodHandle" ∧ y.cls ≠ "java/lang/invoke/VarHandle")
    {W9 : Nat} {Pre : Pt → Array Value → Prop} {Post : Pt → Array Value → Option Value → Pt → Prop} (hK : Back l R p e below s args y 3 W9 Pre Post)
    {b : Addr} {cellB : Cell} (hcell : T.heap[b]? = some cellB) (hobj : cellB.vm.isStatics = false) (hcls : s.vm.findClass C = some cellB.cls)
    {g : JFrame} (hg : g.method = m) (hsize : g.locals.size = c.maxLocals) {argsL rest : List Value} (hlen : ∀ sig, parseMethodDescriptor y.desc = some sig → argsL.length = sig.parameters.length)
    (hstack : g.stack = argsL.reverse ++ .ref b :: rest) (hW : 2 * g.monitorRoom + (rest.map fun v => v.category).sum ≤ W9) (hdg : decode c.code g.pc = .ok (.invokevirtual index, 3))
    (hpre : ∀ vm₁, s.WarmedH vm₁ → Pre ⟨T.setVm vm₁, locs, cells, slots⟩ (Value.ref b :: argsL).toArray) :
    ∃ (v : Option Value) (vm₁ : Vm) (B : Pt), s.WarmedH vm₁ ∧ Stand p l e R s m args below meth c B.U B.locs B.cells B.slots ∧ Post ⟨T.setVm vm₁, locs, cells, slots⟩ (Value.ref b :: argsL).toArray v B ∧
      ∀ target, Steps p.tables e below (B.U.setTop { g with pc := g.pc + 3, stack := v.toList ++ rest }) target → Steps p.tables e below (T.setTop g) target := by
  obtain ⟨mk, methM, hnamed, hmethM, hstM, habM⟩ := Cond.instanceMethod_spec hinst
  obtain ⟨m8, methM', cM, hn8, hmethM', -, -, -, -, -, -, hsigM⟩ := Cond.codeWith_spec hcode
  cases Option.some.inj (hn8.symm.trans hnamed)
  cases hmethM.symm.trans hmethM'
  obtain ⟨c2, r2, m2, q1, q2, q3, q4, kP, hkP, hkPi⟩ := Cond.selects_spec hsel
  cases hcls.symm.trans q1
  cases (State.methodFound?_of_named hnamed hy).symm.trans q2
  cases hnamed.symm.trans q3
  have hselP : selectMethod e.platform s.vm cellB.cls mk = .method mk := by rw [Launch.admits_selectMethod X.admits]; exact q4
  obtain ⟨vm₁, X₁, hstep₁⟩ := X.invokevirtual hexec hown hlink hnamed hmethM hstM hkP hkPi hy (a := b) (cell := cellB) hcell
    (fun z h => by rw [h] at hobj; cases hobj) hselP hmethM habM hkP hkPi (g := g) hg (argsL := argsL) (rest := rest) (hlen _ hsigM) hstack hdg
  obtain ⟨v, B, X', hpost, hsteps⟩ := hK m meth c ⟨T.setVm vm₁, locs, cells, slots⟩ { g with stack := rest } (.invokevirtual index) mk (Value.ref b :: argsL).toArray X₁ hg hsize hdg hW (X₁.named hnamed) (hpre vm₁ X₁.warmed)
  exact ⟨v, vm₁, B, X₁.warmed, X', hpost, fun target h => hstep₁ _ fun acts => by rw [doInvoke_state]; exact hsteps.trans h⟩
abbrev vx_CVW (R : Room) (s : State) (args : Array Value) (own C : String) (index : Nat) (y : MethodName) (bytes : ByteArray) (maxL : Nat) (ret : Option FieldType) (hh : List (Nat × Nat × Nat × Nat)) (ws : List Cond) (rm : Room) (mc ms n : Nat) : Prop :=
  (rm.cells = mc ∧ rm.slots = ms ∧ rm.frames + 1 ≤ R.frames ∧ 8 + (maxL + 11) + rm.locals ≤ R.locals ∧ (∀ w ∈ ws, ∀ (a' : Array Value) (U : State), s.WarmedH U.vm → w.before a' U = true) ∧ Cond.codeWith y bytes maxL ret hh ∈ ws) ∧
  (Cond.codeWith y bytes maxL ret hh).before args s = true ∧ (Cond.initialized y.cls).before args s = true ∧ (y.cls ≠ "java/lang/invoke/MethodHandle" ∧ y.cls ≠ "java/lang/invoke/VarHandle") ∧
  (∀ sig, parseMethodDescriptor y.desc = some sig → n = sig.parameters.length) ∧ (Cond.methodLink own index y).before args s = true ∧ (Cond.instanceMethod y).before args s = true ∧ (Cond.selects C y y).before args s = true
theorem vx_cwVW {own C : String} {index maxL mc ms : Nat} {y : MethodName} {bytes : ByteArray} {ret : Option FieldType} {hh : List (Nat × Nat × Nat × Nat)} {Ts ws ws' : List Cond} {rm : Room} (n : Nat) (ht : ∀ w ∈ Ts, w.before args s = true) (hT : GoodIn Ts (wsV own index C y ws)) (hw : ws = Cond.codeWith y bytes maxL ret hh :: ws') (hrc : rm.cells = mc) (hrs : rm.slots = ms)
    (hd : y.cls = C ∧ y.cls ≠ "java/lang/invoke/MethodHandle" ∧ y.cls ≠ "java/lang/invoke/VarHandle" ∧ (parseMethodDescriptor y.desc).map (fun d => d.parameters.length) = some n) (hR : rm.frames + 1 ≤ R.frames ∧ 8 + (maxL + 11) + rm.locals ≤ R.locals) :
    vx_CVW R s args own C index y bytes maxL ret hh ws rm mc ms n := by
  obtain ⟨hC, hd⟩ := hd
  subst hC
  have ok : ∀ w ∈ wsV own index y.cls y ws, w.before args s = true := fun w h => ht w (hT w h).1
  have hG : GoodIn Ts ws := fun w h => hT w (by unfold wsV; exact List.mem_append_right _ h)
  have hc : Cond.codeWith y bytes maxL ret hh ∈ ws := by rw [hw]; exact List.mem_cons_self
  refine ⟨⟨hrc, hrs, hR.1, hR.2, pay_in ht hG, hc⟩, ht _ (hG _ hc).1, ok _ (by simp [wsV]), ⟨hd.1, hd.2.1⟩, fun sig h => ?_, ok _ (by simp [wsV]), ok _ (by simp [wsV]), ok _ (by simp [wsV])⟩
  have h2 := hd.2.2
  rw [h] at h2
  exact (Option.some.inj h2).symm
theorem vx_runVW {y : MethodName} {bytes cc : ByteArray} {maxL nL mc ms n index : Nat} {ret : Option FieldType} {hh : List (Nat × Nat × Nat × Nat)} {ws : List Cond} {rm : Room} {Pc : Array Value → State → Prop} {Qc : Array Value → State → Outcome → State → Prop} {free : Addr → Prop} {Ts : List Cond} {own C : String} {b : Addr} {As rest : List Value} {g : JFrame}
    (S : CallFix p m c cc nL s args Ts own) (hM : Met l y ws rm Pc Qc mc ms free) (cw : vx_CVW R s args own C index y bytes maxL ret hh ws rm mc ms n) (hp : PreV s H C b Pc As)
    (hg : g.method = m) (hn : As.length = n) (hsize : g.locals.size = nL) (hstack : g.stack = As.reverse ++ .ref b :: rest) (hW : 2 * g.monitorRoom + (rest.map fun v => v.category).sum ≤ 8) (hdg : decode cc g.pc = .ok (.invokevirtual index, 3)) (hf : cells + mc ≤ R.cells ∧ slots + ms ≤ R.slots) :
    va_Run p l e R s m args below meth c H locs cells slots mc ms g rest (Qc (Value.ref b :: As).toArray) free := by
  obtain ⟨⟨hrc, hrs, hfr, hlo, hws, hcw⟩, hcode, hini, hy, hlen, hl, hin, hse⟩ := cw
  have hK : Back l R p e below s args y 3 8 (PreOf R mc ms Pc) (PostOf Qc mc ms free) := va_backW (hh := hh) (bytes := bytes) (maxL := maxL) (ret := ret) hM hp.1 hrc hrs hfr hlo hws hcw (fun a' U hW => word_at hW (Or.inl (by first | rfl | simp [Cond.onTables, Cond.keeps, Cond.steady])) hini)
  obtain ⟨hx, hb, hml, ho, -⟩ := S
  obtain ⟨-, ⟨cellB, hcB, hoB, hclB⟩, hPc⟩ := hp
  intro T hT X
  obtain ⟨v, vm₁, ⟨U', l2, c2, s2⟩, hW₁, X', ⟨g', mk, t, L, e1, e2, hq, h1, hL, h2, h3⟩, st⟩ := vx_callVW X hx (C := C) (hh := hh) (bytes := bytes) (maxL := maxL) (ret := ret) ho hl hin hse hcode hy hK (by rw [hT]; exact hcB) hoB hclB hg (hsize.trans hml.symm) (argsL := As) (rest := rest) (fun sig h => hn.trans (hlen sig h)) hstack hW (by rw [hb]; exact hdg)
    (fun vm₁ hW₁ => ⟨hf.1, hf.2, hPc (T.setVm vm₁) hT hW₁⟩)
  dsimp only [Pt.U, Pt.locs, Pt.cells, Pt.slots] at X' e1 e2 h1 h2 h3 st
  subst h1; subst h2; subst h3
  exact ⟨v, (T.setVm vm₁).calling g' mk (Value.ref b :: As).toArray, t, U', L, hT, X', hL, e1, e2, hq, st⟩
section
variable {y : MethodName} {bytes cc : ByteArray} {maxL nL mc ms n index : Nat} {ret : Option FieldType} {ws : List Cond} {rm : Room} {Pc : Array Value → State → Prop} {Qc : Array Value → State → Outcome → State → Prop} {XC : String → State → State → Prop} {free : Addr → Prop} {Ts : List Cond} {own C : String} {b : Addr} {As rest : List Value} {g : JFrame}
theorem vx_runVX {hh : List (Nat × Nat × Nat × Nat)} (S : CallFix p m c cc nL s args Ts own) (hM : vx_Met l y ws rm Pc Qc XC mc ms free) (cw : vx_CVW R s args own C index y bytes maxL ret hh ws rm mc ms n) (hp : PreV s H C b Pc As)
    (hg : g.method = m) (hn : As.length = n) (hsize : g.locals.size = nL) (hstack : g.stack = As.reverse ++ .ref b :: rest) (hW : 2 * g.monitorRoom + (rest.map fun v => v.category).sum ≤ 8) (hdg : decode cc g.pc = .ok (.invokevirtual index, 3)) (hf : cells + mc ≤ R.cells ∧ slots + ms ≤ R.slots) :
    vx_Run p l e R s m args below meth c H locs cells slots mc ms g rest (Qc (Value.ref b :: As).toArray) XC free := by
  obtain ⟨⟨hrc, hrs, hfr, hlo, hws, hcw⟩, hcode, hini, hy, hlen, hl, hin, hse⟩ := cw
  have hK : vx_Back l R p e below s args y 3 8 (PreOf R mc ms Pc) (PostOf Qc mc ms free) (vx_Post XC mc ms free) := vx_backW (hh := hh) (bytes := bytes) (maxL := maxL) (ret := ret) hM hp.1 hrc hrs hfr hlo hws hcw (fun a' U hW => word_at hW (Or.inl (by first | rfl | simp [Cond.onTables, Cond.keeps, Cond.steady])) hini)
  obtain ⟨hx, hb, hml, ho, -⟩ := S
  obtain ⟨-, ⟨cellB, hcB, hoB, hclB⟩, hPc⟩ := hp
  intro T hT X
  rcases vx_callVX X hx (C := C) (hh := hh) (bytes := bytes) (maxL := maxL) (ret := ret) ho hl hin hse hcode hy hK (by rw [hT]; exact hcB) hoB hclB hg (hsize.trans hml.symm) (argsL := As) (rest := rest) (fun sig h => hn.trans (hlen sig h)) hstack hW (by rw [hb]; exact hdg)
    (fun vm₁ hW₁ => ⟨hf.1, hf.2, hPc (T.setVm vm₁) hT hW₁⟩) with ⟨v, vm₁, ⟨U', l2, c2, s2⟩, hW₁, X', ⟨g', mk, t, L, e1, e2, hq, h1, hL, h2, h3⟩, st⟩ | ⟨q, vm₁, ⟨U', l2, c2, s2⟩, hW₁, X', ⟨g', mk, t, L, E, ce, e1, e2, hq, hce, hcv, hcl, h1, hL, h2, h3⟩, st⟩
  · dsimp only [Pt.U, Pt.locs, Pt.cells, Pt.slots] at X' e1 e2 h1 h2 h3 st
    subst h1; subst h2; subst h3
    exact Or.inl ⟨v, (T.setVm vm₁).calling g' mk (Value.ref b :: As).toArray, t, U', L, hT, X', hL, e1, e2, hq, st⟩
  · dsimp only [Pt.U, Pt.locs, Pt.cells, Pt.slots] at X' e1 e2 h1 h2 h3 st hcl
    subst h1; subst h2; subst h3
    exact Or.inr ⟨q, (T.setVm vm₁).calling g' mk (Value.ref b :: As).toArray, t, U', L, E, ce, hT, X', hL, e1, e2, hq, hce, hcv, vx_cls hW₁ hcl, st⟩
theorem vx_runSX {hh : List (Nat × Nat × Nat × Nat)} (S : CallFix p m c cc nL s args Ts own) (hM : vx_Met l y ws rm Pc Qc XC mc ms free) (cw : vx_CSW R s args own index y bytes maxL ret hh ws rm mc ms n) (hp : PreS s H Pc As)
    (hg : g.method = m) (hn : As.length = n) (hsize : g.locals.size = nL) (hstack : g.stack = As.reverse ++ rest) (hW : 2 * g.monitorRoom + (rest.map fun v => v.category).sum ≤ 8) (hdg : decode cc g.pc = .ok (.invokestatic index, 3)) (hf : cells + mc ≤ R.cells ∧ slots + ms ≤ R.slots) :
    vx_Run p l e R s m args below meth c H locs cells slots mc ms g rest (Qc As.toArray) XC free := by
  obtain ⟨⟨hrc, hrs, hfr, hlo, hws, hcw⟩, hcode, hini, hy, hlen, hl, hstt⟩ := cw
  have hK : vx_Back l R p e below s args y 3 8 (PreOf R mc ms Pc) (PostOf Qc mc ms free) (vx_Post XC mc ms free) := vx_backW (hh := hh) (bytes := bytes) (maxL := maxL) (ret := ret) hM hp.1 hrc hrs hfr hlo hws hcw (fun a' U hW => word_at hW (Or.inl (by first | rfl | simp [Cond.onTables, Cond.keeps, Cond.steady])) hini)
  obtain ⟨hx, hb, hml, ho, -⟩ := S
  intro T hT X
  rcases vx_callSX X hx (hh := hh) (bytes := bytes) (maxL := maxL) (ret := ret) ho hl hstt hini hcode hy hK hg (hsize.trans hml.symm) (argsL := As) (rest := rest) (fun sig h => hn.trans (hlen sig h)) hstack hW (by rw [hb]; exact hdg)
    (fun vm₁ hW₁ => ⟨hf.1, hf.2, hp.2 (T.setVm vm₁) hT hW₁⟩) with ⟨v, vm₁, ⟨U', l2, c2, s2⟩, hW₁, X', ⟨g', mk, t, L, e1, e2, hq, h1, hL, h2, h3⟩, st⟩ | ⟨q, vm₁, ⟨U', l2, c2, s2⟩, hW₁, X', ⟨g', mk, t, L, E, ce, e1, e2, hq, hce, hcv, hcl, h1, hL, h2, h3⟩, st⟩
  · dsimp only [Pt.U, Pt.locs, Pt.cells, Pt.slots] at X' e1 e2 h1 h2 h3 st
    subst h1; subst h2; subst h3
    exact Or.inl ⟨v, (T.setVm vm₁).calling g' mk As.toArray, t, U', L, hT, X', hL, e1, e2, hq, st⟩
  · dsimp only [Pt.U, Pt.locs, Pt.cells, Pt.slots] at X' e1 e2 h1 h2 h3 st hcl
    subst h1; subst h2; subst h3
    exact Or.inr ⟨q, (T.setVm vm₁).calling g' mk As.toArray, t, U', L, E, ce, hT, X', hL, e1, e2, hq, hce, hcv, vx_cls hW₁ hcl, st⟩
end
end VXH
theorem vx_ofWH {l : Launch} {y : MethodName} {ws ws' : List Cond} {rm : Room} {Pc : Array Value → State → Prop} {Qc : Array Value → State → Outcome → State → Prop} {XC : String → State → State → Prop} {mc ms : Nat} {free : Addr → Prop} {cc : ByteArray} {maxL : Nat} {ret : Option FieldType} {hh : List (Nat × Nat × Nat × Nat)}
    (hy : plainName y.cls = true) (hw : ws = Cond.codeWith y cc maxL ret hh :: ws')
    (body : ∀ p e s m args below meth c s₁, BodyLoose p l y (headSpec ws rm) cc maxL ret e s m args below meth c s₁ → c.maxLocals = maxL → Pc args s →
      W p l e (headSpec ws rm).room s m args below meth c s.heap [] 0 0 (vx_MQ below Qc XC args s mc ms free) (entryFrame m args maxL)) : vx_Met l y ws rm Pc Qc XC mc ms free := by
  refine MetFree.of_bodyS (code := cc) (maxLocals := maxL) (ret := ret) hy ?_ ?_
  · intro args s m h hn
    obtain ⟨m9, meth, c, hn9, h1, h2, h3, h4, -, h5, h6, -⟩ := Cond.codeWith_spec (atoms_spec (ws := ws) h _ (by rw [hw]; exact List.mem_cons_self))
    cases hn.symm.trans hn9
    exact ⟨meth, c, h1, h2, h3, h4, h5, h6⟩
  · intro p e s m args below meth c s₁ B hml hP _
    have hh0 : s₁.heap = s.heap := by rw [B.state]; rfl
    obtain ⟨t, a1, o, b1, b2, b3⟩ := body p e s m args below meth c s₁ B hml hP s₁ hh0 (Stand.of_body B)
    exact ⟨t, o, a1, b1, b2, b3⟩
/-! ===== END ===== -/
end
section
/-! THE CLAIM OUT OF ONE WALK OF THE LAW'S BODY. Your part is whole_start (and what it stands on); all else here is the same for every law, but numbers. -/
def R_law : String := "SecondWavesLaw"
def lw_P (b : Addr) (xs : List Int32) (args : Array Value) (s : State) : Prop := args = #[.ref b] ∧ s.IntsAt b xs ∧ xs.length ≤ 2560 ∧ (Jvm.Cond.and given_1 narrow_1).before args s = true
def lw_Q (_ : Array Value) (s : State) (o : Outcome) (t : State) : Prop := o = .returned (some (.int 1)) ∧ Framed s o t [] 621509 7231577
def lw_Z (below : List Frame) (a : Array Value) (s : State) : State → Prop := fun t => ∃ o, t.status = .running ∧ Ended t below o ∧ lw_Q a s o t
/-- the law's own end, with 1 on the stack, nothing written that was there before, its room as the claim has it -/
theorem lw_ret {p : Program} {l : Launch} {e : Env} {s : State} {m : MethodId} {below : List Frame} {meth : Method} {c : Code} {b : Nat} (hx : p.tables.exec = Jvm.exec) (hb : c.code = code) (hr : meth.sig.returnType = ret) (hlocks : meth.locks = false) {pc : Nat} {H : Heap} {ls : Array Slot} (hdg : decode code pc = .ok (.ireturn, 1)) : W p l e room_1 s m #[Value.ref b] below meth c H [] 621509 7231577 (lw_Z below #[Value.ref b] s) (F0 m pc ls [.int 1]) := by
  intro T hT X
  obtain ⟨fs, hret, hrun, hended, hW, hframe⟩ := X.leave (v := some (.int 1)) (hlocks := hlocks) (fun h => by rw [hr] at h; cases h)
  have hmeth' : T.vm.method? m = some meth := X.method'
  refine ⟨T.setFrames fs, ?_, .returned (some (.int 1)), hrun, hended, rfl, ⟨_, rfl⟩, hW, hframe⟩
  jvm_step X.here [X.here.top, hx, hb, hdg, hmeth', hr, ret, narrow_b1]
  (try refine ⟨rfl, ?_⟩); (try refine ⟨rfl, ?_⟩)
  first | (intro acts; rw [hret _ acts rfl rfl rfl]) | rw [hret _ _ rfl rfl rfl]
  exact Steps.refl _
/-- what holds at the law's entry: the machine, the code, the tables' words (any of lw_tbl by 'hts w (by decide +kernel)'), the script of L ints xs at the cell b, what the Statement gives of the start (any of its parts by flat_of_before) -/
def lw_At (p : Program) (s : State) (m : MethodId) (meth : Method) (c : Code) (b L : Nat) (xs : Nat → Int32) : Prop :=
  p.tables.exec = Jvm.exec ∧ c.code = code ∧ meth.sig.returnType = ret ∧ c.maxLocals = 7 ∧ s.vm.findClass R_law = some m.cls ∧ (∀ w ∈ lw_tbl, w.before #[Value.ref b] s = true) ∧ va_X b L xs s s.heap ∧ b < s.heap.size ∧ meth.locks = false ∧ (Jvm.Cond.and given_1 narrow_1).before #[Value.ref b] s = true
end
section
/-! NAMES, by program (wip/whole/names.py) -/
def go_fd : List (Nat × Instr × Nat) → Nat → Option (Instr × Nat)
  | [], _ => none
  | (j, w) :: r, i => match Nat.beq j i with
    | true => some w
    | false => go_fd r i
theorem go_fd_ok {cc : ByteArray} {tab : List (Nat × Instr × Nat)} (h : tab.all (fun q => decide (decode cc q.1 = .ok q.2)) = true) {i : Nat} {w : Instr × Nat} (e : go_fd tab i = some w) : decode cc i = .ok w := by
  induction tab with
  | nil => cases e
  | cons q r ih =>
    obtain ⟨j, z⟩ := q
    rw [List.all_cons, Bool.and_eq_true] at h
    simp only [go_fd] at e
    cases hb : Nat.beq j i with
    | true =>
      rw [hb] at e
      have ej := Nat.eq_of_beq_eq_true hb
      subst ej
      cases e
      exact of_decide_eq_true h.1
    | false =>
      rw [hb] at e
      exact ih h.2 e
def RI : String := "SecondWaves$Incident"
def TI : u_T := fun k => match k with
  | 0 => ("SecondWaves$Incident", "open", "Z", false)
  | 1 => ("SecondWaves$Incident", "step", "I", false)
  | 2 => ("SecondWaves$Incident", "hurt", "I", false)
  | 3 => ("SecondWaves$Incident", "latestRow", "I", false)
  | 4 => ("SecondWaves$Incident", "timesActed", "I", false)
  | 5 => ("SecondWaves$Incident", "timesUp", "I", false)
  | 6 => ("SecondWaves$Incident", "timesDown", "I", false)
  | _ => ("SecondWaves$Incident", "actedAt", "[I", true)
def tyI : Nat → FieldType := fun k => match k with
  | 0 => .boolean
  | 1 => .int
  | 2 => .int
  | 3 => .int
  | 4 => .int
  | 5 => .int
  | 6 => .int
  | _ => (.array .int)
abbrev wf_I : List Cond := u_ws RI TI 8
theorem nmI : ∀ a, a < 8 → ∀ b, b < 8 → a ≠ b → (TI a).2.1 ≠ (TI b).2.1 := by decide +kernel
theorem tyokI : ∀ k, k < 8 → parseFieldDescriptor (TI k).2.2.1 = some (tyI k) := by decide +kernel
def RT : String := "SecondWaves$Trigger"
def TT : u_T := fun k => match k with
  | 0 => ("SecondWaves$Trigger", "kind", "I", false)
  | 1 => ("SecondWaves$Trigger", "what", "I", false)
  | 2 => ("SecondWaves$Trigger", "step", "I", false)
  | 3 => ("SecondWaves$Trigger", "span", "I", false)
  | _ => ("SecondWaves$Trigger", "timesActed", "I", false)
def tyT : Nat → FieldType := fun k => match k with
  | 0 => .int
  | 1 => .int
  | 2 => .int
  | 3 => .int
  | _ => .int
abbrev wf_T : List Cond := u_ws RT TT 5
theorem nmT : ∀ a, a < 5 → ∀ b, b < 5 → a ≠ b → (TT a).2.1 ≠ (TT b).2.1 := by decide +kernel
theorem tyokT : ∀ k, k < 5 → parseFieldDescriptor (TT k).2.2.1 = some (tyT k) := by decide +kernel
def RU : String := "SecondWaves$Unit"
def TU : u_T := fun k => match k with
  | 0 => ("SecondWaves$Unit", "skill", "I", false)
  | 1 => ("SecondWaves$Unit", "doing", "I", false)
  | 2 => ("SecondWaves$Unit", "incident", "I", false)
  | _ => ("SecondWaves$Unit", "distance", "I", false)
def tyU : Nat → FieldType := fun k => match k with
  | 0 => .int
  | 1 => .int
  | 2 => .int
  | _ => .int
abbrev wf_U : List Cond := u_ws RU TU 4
theorem nmU : ∀ a, a < 4 → ∀ b, b < 4 → a ≠ b → (TU a).2.1 ≠ (TU b).2.1 := by decide +kernel
theorem tyokU : ∀ k, k < 4 → parseFieldDescriptor (TU k).2.2.1 = some (tyU k) := by decide +kernel
def RS : String := "SecondWaves"
def TS : u_T := fun k => match k with
  | 0 => ("SecondWaves", "rows", "[[I", true)
  | 1 => ("SecondWaves", "topStep", "I", false)
  | 2 => ("SecondWaves", "now", "I", false)
  | 3 => ("SecondWaves", "triggers", "[LSecondWaves$Trigger;", true)
  | 4 => ("SecondWaves", "triggerCount", "I", false)
  | 5 => ("SecondWaves", "silences", "[I", true)
  | 6 => ("SecondWaves", "silenceCount", "I", false)
  | 7 => ("SecondWaves", "incidents", "[LSecondWaves$Incident;", true)
  | 8 => ("SecondWaves", "incidentCount", "I", false)
  | 9 => ("SecondWaves", "units", "[LSecondWaves$Unit;", true)
  | 10 => ("SecondWaves", "unitCount", "I", false)
  | 11 => ("SecondWaves", "wordsOfNoTrigger", "I", false)
  | 12 => ("SecondWaves", "unitsRecalled", "I", false)
  | _ => ("SecondWaves", "actedWithoutRise", "I", false)
def tyS : Nat → FieldType := fun k => match k with
  | 0 => (.array (.array .int))
  | 1 => .int
  | 2 => .int
  | 3 => (.array (.object "SecondWaves$Trigger"))
  | 4 => .int
  | 5 => (.array .int)
  | 6 => .int
  | 7 => (.array (.object "SecondWaves$Incident"))
  | 8 => .int
  | 9 => (.array (.object "SecondWaves$Unit"))
  | 10 => .int
  | 11 => .int
  | 12 => .int
  | _ => .int
abbrev wf_S : List Cond := u_ws RS TS 14
theorem nmS : ∀ a, a < 14 → ∀ b, b < 14 → a ≠ b → (TS a).2.1 ≠ (TS b).2.1 := by decide +kernel
theorem tyokS : ∀ k, k < 14 → parseFieldDescriptor (TS k).2.2.1 = some (tyS k) := by decide +kernel
def RM : String := "SecondWavesModel"
def TM : u_T := fun k => match k with
  | 0 => ("SecondWavesModel", "thrown", "I", false)
  | 1 => ("SecondWavesModel", "now", "I", false)
  | 2 => ("SecondWavesModel", "top", "I", false)
  | 3 => ("SecondWavesModel", "rows", "[I", true)
  | 4 => ("SecondWavesModel", "triggers", "I", false)
  | 5 => ("SecondWavesModel", "kind", "[I", true)
  | 6 => ("SecondWavesModel", "what", "[I", true)
  | 7 => ("SecondWavesModel", "to", "[I", true)
  | 8 => ("SecondWavesModel", "span", "[I", true)
  | 9 => ("SecondWavesModel", "acts", "[I", true)
  | 10 => ("SecondWavesModel", "incidents", "I", false)
  | 11 => ("SecondWavesModel", "open", "[Z", true)
  | 12 => ("SecondWavesModel", "step", "[I", true)
  | 13 => ("SecondWavesModel", "hurt", "[I", true)
  | 14 => ("SecondWavesModel", "told", "[I", true)
  | 15 => ("SecondWavesModel", "actedAt", "[I", true)
  | 16 => ("SecondWavesModel", "ups", "[I", true)
  | 17 => ("SecondWavesModel", "downs", "[I", true)
  | 18 => ("SecondWavesModel", "last", "[I", true)
  | 19 => ("SecondWavesModel", "units", "I", false)
  | 20 => ("SecondWavesModel", "skill", "[I", true)
  | 21 => ("SecondWavesModel", "does", "[I", true)
  | 22 => ("SecondWavesModel", "at", "[I", true)
  | 23 => ("SecondWavesModel", "distance", "[I", true)
  | 24 => ("SecondWavesModel", "words", "I", false)
  | 25 => ("SecondWavesModel", "recalled", "I", false)
  | _ => ("SecondWavesModel", "idle", "I", false)
def tyM : Nat → FieldType := fun k => match k with
  | 0 => .int
  | 1 => .int
  | 2 => .int
  | 3 => (.array .int)
  | 4 => .int
  | 5 => (.array .int)
  | 6 => (.array .int)
  | 7 => (.array .int)
  | 8 => (.array .int)
  | 9 => (.array .int)
  | 10 => .int
  | 11 => (.array .boolean)
  | 12 => (.array .int)
  | 13 => (.array .int)
  | 14 => (.array .int)
  | 15 => (.array .int)
  | 16 => (.array .int)
  | 17 => (.array .int)
  | 18 => (.array .int)
  | 19 => .int
  | 20 => (.array .int)
  | 21 => (.array .int)
  | 22 => (.array .int)
  | 23 => (.array .int)
  | 24 => .int
  | 25 => .int
  | _ => .int
abbrev wf_M : List Cond := u_ws RM TM 27
theorem nmM : ∀ a, a < 27 → ∀ b, b < 27 → a ≠ b → (TM a).2.1 ≠ (TM b).2.1 := by decide +kernel
theorem tyokM : ∀ k, k < 27 → parseFieldDescriptor (TM k).2.2.1 = some (tyM k) := by decide +kernel
def RL : String := "SecondWavesLaw"
abbrev go_cl : List vw_C := [(RI, TI, 8), (RT, TT, 5), (RU, TU, 4), (RS, TS, 14), (RM, TM, 27)]
abbrev c_I_init : ByteArray := prog_2_method_1_code
def y_I_init : MethodName := ⟨RI, "<init>", "()V"⟩
def t_I_init : List (Nat × Instr × Nat) := [(0, .aload_n 0, 1), (1, .invokespecial 3, 3), (4, .aload_n 0, 1), (5, .bipush 20, 2), (7, .newarray .int, 2), (9, .putfield 9, 3), (12, .iconst 0, 1), (13, .istore_n 1, 1), (14, .iload_n 1, 1), (15, .bipush 20, 2), (17, .if_icmp .ge 16, 3), (20, .aload_n 0, 1), (21, .getfield 9, 3), (24, .iload_n 1, 1), (25, .iconst (-1), 1), (26, .iastore, 1), (27, .iinc 1 1, 3), (30, .goto (-16), 3), (33, .return_, 1)]
theorem d_I_init (i : Nat) {w : Instr × Nat} (e : go_fd t_I_init i = some w) : decode c_I_init i = .ok w := go_fd_ok (tab := t_I_init) (by decide +kernel) e
abbrev c_T_init : ByteArray := prog_3_method_1_code
def y_T_init : MethodName := ⟨RT, "<init>", "()V"⟩
def t_T_init : List (Nat × Instr × Nat) := [(0, .aload_n 0, 1), (1, .invokespecial 1, 3), (4, .return_, 1)]
theorem d_T_init (i : Nat) {w : Instr × Nat} (e : go_fd t_T_init i = some w) : decode c_T_init i = .ok w := go_fd_ok (tab := t_T_init) (by decide +kernel) e
abbrev c_T_set : ByteArray := prog_3_method_2_code
def y_T_set : MethodName := ⟨RT, "set", "(IIII)V"⟩
def t_T_set : List (Nat × Instr × Nat) := [(0, .aload_n 0, 1), (1, .iload_n 1, 1), (2, .putfield 7, 3), (5, .aload_n 0, 1), (6, .iload_n 2, 1), (7, .putfield 13, 3), (10, .aload_n 0, 1), (11, .iload_n 3, 1), (12, .putfield 16, 3), (15, .aload_n 0, 1), (16, .iload 4, 2), (18, .putfield 19, 3), (21, .return_, 1)]
theorem d_T_set (i : Nat) {w : Instr × Nat} (e : go_fd t_T_set i = some w) : decode c_T_set i = .ok w := go_fd_ok (tab := t_T_set) (by decide +kernel) e
abbrev c_T_isFor : ByteArray := prog_3_method_3_code
def y_T_isFor : MethodName := ⟨RT, "isFor", "(III)Z"⟩
def t_T_isFor : List (Nat × Instr × Nat) := [(0, .aload_n 0, 1), (1, .getfield 7, 3), (4, .iload_n 1, 1), (5, .if_icmp .ne 23, 3), (8, .aload_n 0, 1), (9, .getfield 13, 3), (12, .iload_n 2, 1), (13, .if_icmp .lt 15, 3), (16, .aload_n 0, 1), (17, .getfield 13, 3), (20, .iload_n 3, 1), (21, .if_icmp .gt 7, 3), (24, .iconst 1, 1), (25, .goto 4, 3), (28, .iconst 0, 1), (29, .ireturn, 1)]
theorem d_T_isFor (i : Nat) {w : Instr × Nat} (e : go_fd t_T_isFor i = some w) : decode c_T_isFor i = .ok w := go_fd_ok (tab := t_T_isFor) (by decide +kernel) e
abbrev c_U_init : ByteArray := prog_4_method_1_code
def y_U_init : MethodName := ⟨RU, "<init>", "()V"⟩
def t_U_init : List (Nat × Instr × Nat) := [(0, .aload_n 0, 1), (1, .invokespecial 3, 3), (4, .aload_n 0, 1), (5, .iconst 0, 1), (6, .putfield 9, 3), (9, .aload_n 0, 1), (10, .iconst (-1), 1), (11, .putfield 15, 3), (14, .aload_n 0, 1), (15, .iconst (-1), 1), (16, .putfield 18, 3), (19, .return_, 1)]
theorem d_U_init (i : Nat) {w : Instr × Nat} (e : go_fd t_U_init i = some w) : decode c_U_init i = .ok w := go_fd_ok (tab := t_U_init) (by decide +kernel) e
abbrev c_U_setFree : ByteArray := prog_4_method_2_code
def y_U_setFree : MethodName := ⟨RU, "setFree", "()V"⟩
def t_U_setFree : List (Nat × Instr × Nat) := [(0, .aload_n 0, 1), (1, .iconst 0, 1), (2, .putfield 9, 3), (5, .aload_n 0, 1), (6, .iconst (-1), 1), (7, .putfield 15, 3), (10, .aload_n 0, 1), (11, .iconst (-1), 1), (12, .putfield 18, 3), (15, .return_, 1)]
theorem d_U_setFree (i : Nat) {w : Instr × Nat} (e : go_fd t_U_setFree i = some w) : decode c_U_setFree i = .ok w := go_fd_ok (tab := t_U_setFree) (by decide +kernel) e
abbrev c_U_isFor : ByteArray := prog_4_method_3_code
def y_U_isFor : MethodName := ⟨RU, "isFor", "(II)Z"⟩
def t_U_isFor : List (Nat × Instr × Nat) := [(0, .aload_n 0, 1), (1, .getfield 15, 3), (4, .iload_n 1, 1), (5, .if_icmp .ne 15, 3), (8, .aload_n 0, 1), (9, .getfield 21, 3), (12, .iload_n 2, 1), (13, .if_icmp .ne 7, 3), (16, .iconst 1, 1), (17, .goto 4, 3), (20, .iconst 0, 1), (21, .ireturn, 1)]
theorem d_U_isFor (i : Nat) {w : Instr × Nat} (e : go_fd t_U_isFor i = some w) : decode c_U_isFor i = .ok w := go_fd_ok (tab := t_U_isFor) (by decide +kernel) e
abbrev c_U_goesBackBefore : ByteArray := prog_4_method_4_code
def y_U_goesBackBefore : MethodName := ⟨RU, "goesBackBefore", "(LSecondWaves$Unit;)Z"⟩
def t_U_goesBackBefore : List (Nat × Instr × Nat) := [(0, .aload_n 0, 1), (1, .getfield 9, 3), (4, .aload_n 1, 1), (5, .getfield 9, 3), (8, .if_icmp .eq 17, 3), (11, .aload_n 0, 1), (12, .getfield 9, 3), (15, .iconst 1, 1), (16, .if_icmp .ne 7, 3), (19, .iconst 1, 1), (20, .goto 4, 3), (23, .iconst 0, 1), (24, .ireturn, 1), (25, .aload_n 0, 1), (26, .getfield 18, 3), (29, .aload_n 1, 1), (30, .getfield 18, 3), (33, .if_icmp .lt 7, 3), (36, .iconst 1, 1), (37, .goto 4, 3), (40, .iconst 0, 1), (41, .ireturn, 1)]
theorem d_U_goesBackBefore (i : Nat) {w : Instr × Nat} (e : go_fd t_U_goesBackBefore i = some w) : decode c_U_goesBackBefore i = .ok w := go_fd_ok (tab := t_U_goesBackBefore) (by decide +kernel) e
abbrev c_S_init : ByteArray := prog_1_method_1_code
def y_S_init : MethodName := ⟨RS, "<init>", "()V"⟩
def t_S_init : List (Nat × Instr × Nat) := [(0, .aload_n 0, 1), (1, .invokespecial 1, 3), (4, .aload_n 0, 1), (5, .bipush 10, 2), (7, .bipush 8, 2), (9, .multianewarray 9 2, 4), (13, .putfield 11, 3), (16, .aload_n 0, 1), (17, .bipush 20, 2), (19, .anewarray 14, 3), (22, .putfield 16, 3), (25, .aload_n 0, 1), (26, .bipush 20, 2), (28, .newarray .int, 2), (30, .putfield 20, 3), (33, .aload_n 0, 1), (34, .bipush 12, 2), (36, .anewarray 24, 3), (39, .putfield 26, 3), (42, .aload_n 0, 1), (43, .bipush 40, 2), (45, .anewarray 30, 3), (48, .putfield 32, 3), (51, .iconst 0, 1), (52, .istore_n 1, 1), (53, .iload_n 1, 1), (54, .bipush 20, 2), (56, .if_icmp .ge 22, 3), (59, .aload_n 0, 1), (60, .getfield 16, 3), (63, .iload_n 1, 1), (64, .new 14, 3), (67, .dup, 1), (68, .invokespecial 36, 3), (71, .aastore, 1), (72, .iinc 1 1, 3), (75, .goto (-22), 3), (78, .iconst 0, 1), (79, .istore_n 1, 1), (80, .iload_n 1, 1), (81, .bipush 12, 2), (83, .if_icmp .ge 22, 3), (86, .aload_n 0, 1), (87, .getfield 26, 3), (90, .iload_n 1, 1), (91, .new 24, 3), (94, .dup, 1), (95, .invokespecial 37, 3), (98, .aastore, 1), (99, .iinc 1 1, 3), (102, .goto (-22), 3), (105, .iconst 0, 1), (106, .istore_n 1, 1), (107, .iload_n 1, 1), (108, .bipush 40, 2), (110, .if_icmp .ge 22, 3), (113, .aload_n 0, 1), (114, .getfield 32, 3), (117, .iload_n 1, 1), (118, .new 30, 3), (121, .dup, 1), (122, .invokespecial 38, 3), (125, .aastore, 1), (126, .iinc 1 1, 3), (129, .goto (-22), 3), (132, .return_, 1)]
theorem d_S_init (i : Nat) {w : Instr × Nat} (e : go_fd t_S_init i = some w) : decode c_S_init i = .ok w := go_fd_ok (tab := t_S_init) (by decide +kernel) e
abbrev c_S_row : ByteArray := prog_1_method_2_code
def y_S_row : MethodName := ⟨RS, "row", "(III)V"⟩
def t_S_row : List (Nat × Instr × Nat) := [(0, .iload_n 1, 1), (1, .invokestatic 39, 3), (4, .iload_n 2, 1), (5, .invokestatic 43, 3), (8, .iload_n 3, 1), (9, .iconst 0, 1), (10, .bipush 30, 2), (12, .invokestatic 46, 3), (15, .aload_n 0, 1), (16, .getfield 11, 3), (19, .iload_n 1, 1), (20, .aaload, 1), (21, .iload_n 2, 1), (22, .iload_n 3, 1), (23, .iastore, 1), (24, .return_, 1)]
theorem d_S_row (i : Nat) {w : Instr × Nat} (e : go_fd t_S_row i = some w) : decode c_S_row i = .ok w := go_fd_ok (tab := t_S_row) (by decide +kernel) e
abbrev c_S_top : ByteArray := prog_1_method_3_code
def y_S_top : MethodName := ⟨RS, "top", "(I)V"⟩
def t_S_top : List (Nat × Instr × Nat) := [(0, .iload_n 1, 1), (1, .invokestatic 39, 3), (4, .aload_n 0, 1), (5, .iload_n 1, 1), (6, .invokevirtual 50, 3), (9, .ifCond .eq 13, 3), (12, .new 54, 3), (15, .dup, 1), (16, .ldc 56, 2), (18, .invokespecial 58, 3), (21, .athrow, 1), (22, .aload_n 0, 1), (23, .iload_n 1, 1), (24, .putfield 61, 3), (27, .return_, 1)]
theorem d_S_top (i : Nat) {w : Instr × Nat} (e : go_fd t_S_top i = some w) : decode c_S_top i = .ok w := go_fd_ok (tab := t_S_top) (by decide +kernel) e
abbrev c_S_trigger : ByteArray := prog_1_method_4_code
def y_S_trigger : MethodName := ⟨RS, "trigger", "(IIII)I"⟩
def t_S_trigger : List (Nat × Instr × Nat) := [(0, .iload_n 1, 1), (1, .ifCond .lt 8, 3), (4, .iload_n 1, 1), (5, .iconst 4, 1), (6, .if_icmp .lt 13, 3), (9, .new 65, 3), (12, .dup, 1), (13, .ldc 67, 2), (15, .invokespecial 69, 3), (18, .athrow, 1), (19, .iload_n 3, 1), (20, .invokestatic 39, 3), (23, .iload_n 2, 1), (24, .getstatic 70, 3), (27, .iload_n 1, 1), (28, .iaload, 1), (29, .getstatic 73, 3), (32, .iload_n 1, 1), (33, .iaload, 1), (34, .invokestatic 46, 3), (37, .iload 4, 2), (39, .iconst 0, 1), (40, .ldc 76, 2), (42, .invokestatic 46, 3), (45, .aload_n 0, 1), (46, .getfield 77, 3), (49, .bipush 20, 2), (51, .if_icmp .lt 13, 3), (54, .new 80, 3), (57, .dup, 1), (58, .ldc 82, 2), (60, .invokespecial 84, 3), (63, .athrow, 1), (64, .aload_n 0, 1), (65, .getfield 77, 3), (68, .istore 5, 2), (70, .aload_n 0, 1), (71, .dup, 1), (72, .getfield 77, 3), (75, .iconst 1, 1), (76, .iadd, 1), (77, .putfield 77, 3), (80, .aload_n 0, 1), (81, .getfield 16, 3), (84, .iload 5, 2), (86, .aaload, 1), (87, .iload_n 1, 1), (88, .iload_n 2, 1), (89, .iload_n 3, 1), (90, .iload 4, 2), (92, .invokevirtual 85, 3), (95, .iload_n 1, 1), (96, .iconst 2, 1), (97, .if_icmp .ne 9, 3), (100, .aload_n 0, 1), (101, .iload 5, 2), (103, .invokevirtual 89, 3), (106, .iload 5, 2), (108, .ireturn, 1)]
theorem d_S_trigger (i : Nat) {w : Instr × Nat} (e : go_fd t_S_trigger i = some w) : decode c_S_trigger i = .ok w := go_fd_ok (tab := t_S_trigger) (by decide +kernel) e
abbrev c_S_begin : ByteArray := prog_1_method_5_code
def y_S_begin : MethodName := ⟨RS, "begin", "()I"⟩
def t_S_begin : List (Nat × Instr × Nat) := [(0, .aload_n 0, 1), (1, .getfield 92, 3), (4, .bipush 12, 2), (6, .if_icmp .lt 13, 3), (9, .new 80, 3), (12, .dup, 1), (13, .ldc 95, 2), (15, .invokespecial 84, 3), (18, .athrow, 1), (19, .aload_n 0, 1), (20, .getfield 92, 3), (23, .istore_n 1, 1), (24, .aload_n 0, 1), (25, .dup, 1), (26, .getfield 92, 3), (29, .iconst 1, 1), (30, .iadd, 1), (31, .putfield 92, 3), (34, .aload_n 0, 1), (35, .getfield 26, 3), (38, .iload_n 1, 1), (39, .aaload, 1), (40, .iconst 1, 1), (41, .putfield 97, 3), (44, .aload_n 0, 1), (45, .getfield 26, 3), (48, .iload_n 1, 1), (49, .aaload, 1), (50, .aload_n 0, 1), (51, .getfield 101, 3), (54, .putfield 104, 3), (57, .iload_n 1, 1), (58, .ireturn, 1)]
theorem d_S_begin (i : Nat) {w : Instr × Nat} (e : go_fd t_S_begin i = some w) : decode c_S_begin i = .ok w := go_fd_ok (tab := t_S_begin) (by decide +kernel) e
abbrev c_S_close : ByteArray := prog_1_method_6_code
def y_S_close : MethodName := ⟨RS, "close", "(I)V"⟩
def t_S_close : List (Nat × Instr × Nat) := [(0, .aload_n 0, 1), (1, .iload_n 1, 1), (2, .invokevirtual 107, 3), (5, .astore_n 2, 1), (6, .aload_n 2, 1), (7, .invokestatic 111, 3), (10, .aload_n 2, 1), (11, .iconst 0, 1), (12, .putfield 97, 3), (15, .iconst 0, 1), (16, .istore_n 3, 1), (17, .iload_n 3, 1), (18, .aload_n 0, 1), (19, .getfield 115, 3), (22, .if_icmp .ge 31, 3), (25, .aload_n 0, 1), (26, .getfield 32, 3), (29, .iload_n 3, 1), (30, .aaload, 1), (31, .getfield 118, 3), (34, .iload_n 1, 1), (35, .if_icmp .ne 12, 3), (38, .aload_n 0, 1), (39, .getfield 32, 3), (42, .iload_n 3, 1), (43, .aaload, 1), (44, .invokevirtual 121, 3), (47, .iinc 3 1, 3), (50, .goto (-33), 3), (53, .return_, 1)]
theorem d_S_close (i : Nat) {w : Instr × Nat} (e : go_fd t_S_close i = some w) : decode c_S_close i = .ok w := go_fd_ok (tab := t_S_close) (by decide +kernel) e
abbrev c_S_tick : ByteArray := prog_1_method_7_code
def y_S_tick : MethodName := ⟨RS, "tick", "(I)I"⟩
def t_S_tick : List (Nat × Instr × Nat) := [(0, .iload_n 1, 1), (1, .iconst 1, 1), (2, .sipush 5000, 3), (5, .invokestatic 46, 3), (8, .aload_n 0, 1), (9, .getfield 101, 3), (12, .iload_n 1, 1), (13, .iadd, 1), (14, .iconst 0, 1), (15, .ldc 124, 2), (17, .invokestatic 46, 3), (20, .aload_n 0, 1), (21, .getfield 101, 3), (24, .iload_n 1, 1), (25, .iadd, 1), (26, .istore_n 2, 1), (27, .iconst 0, 1), (28, .istore_n 3, 1), (29, .iconst 0, 1), (30, .istore 4, 2), (32, .iload 4, 2), (34, .aload_n 0, 1), (35, .getfield 92, 3), (38, .if_icmp .ge 37, 3), (41, .aload_n 0, 1), (42, .getfield 26, 3), (45, .iload 4, 2), (47, .aaload, 1), (48, .getfield 97, 3), (51, .ifCond .eq 18, 3), (54, .iload_n 3, 1), (55, .aload_n 0, 1), (56, .aload_n 0, 1), (57, .getfield 26, 3), (60, .iload 4, 2), (62, .aaload, 1), (63, .iload_n 2, 1), (64, .invokevirtual 125, 3), (67, .iadd, 1), (68, .istore_n 3, 1), (69, .iinc 4 1, 3), (72, .goto (-40), 3), (75, .aload_n 0, 1), (76, .iload_n 2, 1), (77, .putfield 101, 3), (80, .iload_n 3, 1), (81, .ireturn, 1)]
theorem d_S_tick (i : Nat) {w : Instr × Nat} (e : go_fd t_S_tick i = some w) : decode c_S_tick i = .ok w := go_fd_ok (tab := t_S_tick) (by decide +kernel) e
abbrev c_S_word : ByteArray := prog_1_method_8_code
def y_S_word : MethodName := ⟨RS, "word", "(II)I"⟩
def t_S_word : List (Nat × Instr × Nat) := [(0, .aload_n 0, 1), (1, .iload_n 1, 1), (2, .invokevirtual 107, 3), (5, .astore_n 3, 1), (6, .iload_n 2, 1), (7, .iconst 0, 1), (8, .bipush 99, 2), (10, .invokestatic 46, 3), (13, .aload_n 3, 1), (14, .invokestatic 111, 3), (17, .aload_n 0, 1), (18, .iload_n 2, 1), (19, .invokevirtual 129, 3), (22, .ifCond .ne 13, 3), (25, .aload_n 0, 1), (26, .dup, 1), (27, .getfield 132, 3), (30, .iconst 1, 1), (31, .iadd, 1), (32, .putfield 132, 3), (35, .aload_n 0, 1), (36, .aload_n 3, 1), (37, .iconst 0, 1), (38, .iload_n 2, 1), (39, .iload_n 2, 1), (40, .invokevirtual 135, 3), (43, .ireturn, 1)]
theorem d_S_word (i : Nat) {w : Instr × Nat} (e : go_fd t_S_word i = some w) : decode c_S_word i = .ok w := go_fd_ok (tab := t_S_word) (by decide +kernel) e
abbrev c_S_hurt : ByteArray := prog_1_method_9_code
def y_S_hurt : MethodName := ⟨RS, "hurt", "(II)I"⟩
def t_S_hurt : List (Nat × Instr × Nat) := [(0, .aload_n 0, 1), (1, .iload_n 1, 1), (2, .invokevirtual 107, 3), (5, .astore_n 3, 1), (6, .iload_n 2, 1), (7, .iconst 0, 1), (8, .sipush 10000, 3), (11, .invokestatic 46, 3), (14, .aload_n 3, 1), (15, .invokestatic 111, 3), (18, .aload_n 3, 1), (19, .getfield 139, 3), (22, .istore 4, 2), (24, .aload_n 3, 1), (25, .iload_n 2, 1), (26, .putfield 139, 3), (29, .aload_n 0, 1), (30, .aload_n 3, 1), (31, .iconst 1, 1), (32, .iload 4, 2), (34, .iconst 1, 1), (35, .iadd, 1), (36, .iload_n 2, 1), (37, .invokevirtual 135, 3), (40, .ireturn, 1)]
theorem d_S_hurt (i : Nat) {w : Instr × Nat} (e : go_fd t_S_hurt i = some w) : decode c_S_hurt i = .ok w := go_fd_ok (tab := t_S_hurt) (by decide +kernel) e
abbrev c_S_ask : ByteArray := prog_1_method_10_code
def y_S_ask : MethodName := ⟨RS, "ask", "(II)I"⟩
def t_S_ask : List (Nat × Instr × Nat) := [(0, .aload_n 0, 1), (1, .iload_n 1, 1), (2, .invokevirtual 107, 3), (5, .astore_n 3, 1), (6, .iload_n 2, 1), (7, .iconst 0, 1), (8, .bipush 9, 2), (10, .invokestatic 46, 3), (13, .aload_n 3, 1), (14, .invokestatic 111, 3), (17, .aload_n 0, 1), (18, .aload_n 3, 1), (19, .iconst 3, 1), (20, .iload_n 2, 1), (21, .iload_n 2, 1), (22, .invokevirtual 135, 3), (25, .ireturn, 1)]
theorem d_S_ask (i : Nat) {w : Instr × Nat} (e : go_fd t_S_ask i = some w) : decode c_S_ask i = .ok w := go_fd_ok (tab := t_S_ask) (by decide +kernel) e
abbrev c_S_tell : ByteArray := prog_1_method_11_code
def y_S_tell : MethodName := ⟨RS, "tell", "(I)V"⟩
def t_S_tell : List (Nat × Instr × Nat) := [(0, .aload_n 0, 1), (1, .iload_n 1, 1), (2, .invokevirtual 107, 3), (5, .astore_n 2, 1), (6, .aload_n 2, 1), (7, .invokestatic 111, 3), (10, .aload_n 2, 1), (11, .aload_n 0, 1), (12, .getfield 101, 3), (15, .putfield 104, 3), (18, .return_, 1)]
theorem d_S_tell (i : Nat) {w : Instr × Nat} (e : go_fd t_S_tell i = some w) : decode c_S_tell i = .ok w := go_fd_ok (tab := t_S_tell) (by decide +kernel) e
abbrev c_S_calm : ByteArray := prog_1_method_12_code
def y_S_calm : MethodName := ⟨RS, "calm", "(II)I"⟩
def t_S_calm : List (Nat × Instr × Nat) := [(0, .aload_n 0, 1), (1, .iload_n 1, 1), (2, .invokevirtual 107, 3), (5, .astore_n 3, 1), (6, .iload_n 2, 1), (7, .invokestatic 39, 3), (10, .aload_n 3, 1), (11, .invokestatic 111, 3), (14, .aload_n 3, 1), (15, .getfield 142, 3), (18, .iload_n 2, 1), (19, .if_icmp .gt 13, 3), (22, .new 54, 3), (25, .dup, 1), (26, .ldc 145, 2), (28, .invokespecial 58, 3), (31, .athrow, 1), (32, .aload_n 3, 1), (33, .iload_n 2, 1), (34, .putfield 142, 3), (37, .aload_n 3, 1), (38, .dup, 1), (39, .getfield 147, 3), (42, .iconst 1, 1), (43, .iadd, 1), (44, .putfield 147, 3), (47, .iconst 0, 1), (48, .istore 4, 2), (50, .iconst 0, 1), (51, .istore 5, 2), (53, .iload 5, 2), (55, .bipush 8, 2), (57, .if_icmp .ge 30, 3), (60, .iload 4, 2), (62, .aload_n 0, 1), (63, .iload_n 1, 1), (64, .iload 5, 2), (66, .aload_n 0, 1), (67, .getfield 11, 3), (70, .iload_n 2, 1), (71, .aaload, 1), (72, .iload 5, 2), (74, .iaload, 1), (75, .invokevirtual 150, 3), (78, .iadd, 1), (79, .istore 4, 2), (81, .iinc 5 1, 3), (84, .goto (-31), 3), (87, .aload_n 0, 1), (88, .dup, 1), (89, .getfield 154, 3), (92, .iload 4, 2), (94, .iadd, 1), (95, .putfield 154, 3), (98, .iload 4, 2), (100, .ireturn, 1)]
theorem d_S_calm (i : Nat) {w : Instr × Nat} (e : go_fd t_S_calm i = some w) : decode c_S_calm i = .ok w := go_fd_ok (tab := t_S_calm) (by decide +kernel) e
abbrev c_S_unit : ByteArray := prog_1_method_13_code
def y_S_unit : MethodName := ⟨RS, "unit", "(I)I"⟩
def t_S_unit : List (Nat × Instr × Nat) := [(0, .iload_n 1, 1), (1, .invokestatic 43, 3), (4, .aload_n 0, 1), (5, .getfield 115, 3), (8, .bipush 40, 2), (10, .if_icmp .lt 13, 3), (13, .new 80, 3), (16, .dup, 1), (17, .ldc 157, 2), (19, .invokespecial 84, 3), (22, .athrow, 1), (23, .aload_n 0, 1), (24, .getfield 115, 3), (27, .istore_n 2, 1), (28, .aload_n 0, 1), (29, .dup, 1), (30, .getfield 115, 3), (33, .iconst 1, 1), (34, .iadd, 1), (35, .putfield 115, 3), (38, .aload_n 0, 1), (39, .getfield 32, 3), (42, .iload_n 2, 1), (43, .aaload, 1), (44, .iload_n 1, 1), (45, .putfield 159, 3), (48, .iload_n 2, 1), (49, .ireturn, 1)]
theorem d_S_unit (i : Nat) {w : Instr × Nat} (e : go_fd t_S_unit i = some w) : decode c_S_unit i = .ok w := go_fd_ok (tab := t_S_unit) (by decide +kernel) e
abbrev c_S_go : ByteArray := prog_1_method_14_code
def y_S_go : MethodName := ⟨RS, "go", "(III)V"⟩
def t_S_go : List (Nat × Instr × Nat) := [(0, .aload_n 0, 1), (1, .iload_n 1, 1), (2, .invokevirtual 162, 3), (5, .astore 4, 2), (7, .aload_n 0, 1), (8, .iload_n 2, 1), (9, .invokevirtual 107, 3), (12, .astore 5, 2), (14, .iload_n 3, 1), (15, .iconst 0, 1), (16, .ldc 166, 2), (18, .invokestatic 46, 3), (21, .aload 4, 2), (23, .getfield 167, 3), (26, .ifCond .eq 13, 3), (29, .new 54, 3), (32, .dup, 1), (33, .ldc 170, 2), (35, .invokespecial 58, 3), (38, .athrow, 1), (39, .aload 5, 2), (41, .invokestatic 111, 3), (44, .aload 4, 2), (46, .iconst 1, 1), (47, .putfield 167, 3), (50, .aload 4, 2), (52, .iload_n 2, 1), (53, .putfield 118, 3), (56, .aload 4, 2), (58, .iload_n 3, 1), (59, .putfield 172, 3), (62, .return_, 1)]
theorem d_S_go (i : Nat) {w : Instr × Nat} (e : go_fd t_S_go i = some w) : decode c_S_go i = .ok w := go_fd_ok (tab := t_S_go) (by decide +kernel) e
abbrev c_S_arrive : ByteArray := prog_1_method_15_code
def y_S_arrive : MethodName := ⟨RS, "arrive", "(I)V"⟩
def t_S_arrive : List (Nat × Instr × Nat) := [(0, .aload_n 0, 1), (1, .iload_n 1, 1), (2, .invokevirtual 162, 3), (5, .astore_n 2, 1), (6, .aload_n 2, 1), (7, .getfield 167, 3), (10, .iconst 1, 1), (11, .if_icmp .eq 13, 3), (14, .new 54, 3), (17, .dup, 1), (18, .ldc 175, 2), (20, .invokespecial 58, 3), (23, .athrow, 1), (24, .aload_n 2, 1), (25, .iconst 2, 1), (26, .putfield 167, 3), (29, .return_, 1)]
theorem d_S_arrive (i : Nat) {w : Instr × Nat} (e : go_fd t_S_arrive i = some w) : decode c_S_arrive i = .ok w := go_fd_ok (tab := t_S_arrive) (by decide +kernel) e
abbrev c_S_needed : ByteArray := prog_1_method_16_code
def y_S_needed : MethodName := ⟨RS, "needed", "(II)I"⟩
def t_S_needed : List (Nat × Instr × Nat) := [(0, .aload_n 0, 1), (1, .iload_n 1, 1), (2, .invokevirtual 107, 3), (5, .astore_n 3, 1), (6, .iload_n 2, 1), (7, .invokestatic 43, 3), (10, .aload_n 3, 1), (11, .invokestatic 111, 3), (14, .aload_n 0, 1), (15, .getfield 11, 3), (18, .aload_n 3, 1), (19, .getfield 142, 3), (22, .aaload, 1), (23, .iload_n 2, 1), (24, .iaload, 1), (25, .aload_n 0, 1), (26, .iload_n 1, 1), (27, .iload_n 2, 1), (28, .invokevirtual 177, 3), (31, .isub, 1), (32, .ireturn, 1)]
theorem d_S_needed (i : Nat) {w : Instr × Nat} (e : go_fd t_S_needed i = some w) : decode c_S_needed i = .ok w := go_fd_ok (tab := t_S_needed) (by decide +kernel) e
abbrev c_S_incident : ByteArray := prog_1_method_17_code
def y_S_incident : MethodName := ⟨RS, "incident", "(II)I"⟩
def t_S_incident : List (Nat × Instr × Nat) := [(0, .aload_n 0, 1), (1, .iload_n 1, 1), (2, .invokevirtual 107, 3), (5, .astore_n 3, 1), (6, .iload_n 2, 1), (7, .tableswitch 84 0 6 #[41, 46, 59, 64, 69, 74, 79], 41), (48, .aload_n 3, 1), (49, .getfield 142, 3), (52, .ireturn, 1), (53, .aload_n 3, 1), (54, .getfield 97, 3), (57, .ifCond .eq 7, 3), (60, .iconst 1, 1), (61, .goto 4, 3), (64, .iconst 0, 1), (65, .ireturn, 1), (66, .aload_n 3, 1), (67, .getfield 139, 3), (70, .ireturn, 1), (71, .aload_n 3, 1), (72, .getfield 104, 3), (75, .ireturn, 1), (76, .aload_n 3, 1), (77, .getfield 181, 3), (80, .ireturn, 1), (81, .aload_n 3, 1), (82, .getfield 184, 3), (85, .ireturn, 1), (86, .aload_n 3, 1), (87, .getfield 147, 3), (90, .ireturn, 1), (91, .new 65, 3), (94, .dup, 1), (95, .ldc 187, 2), (97, .invokespecial 69, 3), (100, .athrow, 1)]
theorem d_S_incident (i : Nat) {w : Instr × Nat} (e : go_fd t_S_incident i = some w) : decode c_S_incident i = .ok w := go_fd_ok (tab := t_S_incident) (by decide +kernel) e
abbrev c_S_unitAt : ByteArray := prog_1_method_18_code
def y_S_unitAt : MethodName := ⟨RS, "unitAt", "(II)I"⟩
def t_S_unitAt : List (Nat × Instr × Nat) := [(0, .aload_n 0, 1), (1, .iload_n 1, 1), (2, .invokevirtual 162, 3), (5, .astore_n 3, 1), (6, .iload_n 2, 1), (7, .tableswitch 40 0 2 #[25, 30, 35], 25), (32, .aload_n 3, 1), (33, .getfield 167, 3), (36, .ireturn, 1), (37, .aload_n 3, 1), (38, .getfield 118, 3), (41, .ireturn, 1), (42, .aload_n 3, 1), (43, .getfield 172, 3), (46, .ireturn, 1), (47, .new 65, 3), (50, .dup, 1), (51, .ldc 189, 2), (53, .invokespecial 69, 3), (56, .athrow, 1)]
theorem d_S_unitAt (i : Nat) {w : Instr × Nat} (e : go_fd t_S_unitAt i = some w) : decode c_S_unitAt i = .ok w := go_fd_ok (tab := t_S_unitAt) (by decide +kernel) e
abbrev c_S_acted : ByteArray := prog_1_method_19_code
def y_S_acted : MethodName := ⟨RS, "acted", "(I)I"⟩
def t_S_acted : List (Nat × Instr × Nat) := [(0, .iload_n 1, 1), (1, .ifCond .lt 11, 3), (4, .iload_n 1, 1), (5, .aload_n 0, 1), (6, .getfield 77, 3), (9, .if_icmp .lt 13, 3), (12, .new 65, 3), (15, .dup, 1), (16, .ldc 191, 2), (18, .invokespecial 69, 3), (21, .athrow, 1), (22, .aload_n 0, 1), (23, .getfield 16, 3), (26, .iload_n 1, 1), (27, .aaload, 1), (28, .getfield 193, 3), (31, .ireturn, 1)]
theorem d_S_acted (i : Nat) {w : Instr × Nat} (e : go_fd t_S_acted i = some w) : decode c_S_acted i = .ok w := go_fd_ok (tab := t_S_acted) (by decide +kernel) e
abbrev c_S_count : ByteArray := prog_1_method_20_code
def y_S_count : MethodName := ⟨RS, "count", "(I)I"⟩
def t_S_count : List (Nat × Instr × Nat) := [(0, .iload_n 1, 1), (1, .tableswitch 51 0 3 #[31, 36, 41, 46], 31), (32, .aload_n 0, 1), (33, .getfield 101, 3), (36, .ireturn, 1), (37, .aload_n 0, 1), (38, .getfield 132, 3), (41, .ireturn, 1), (42, .aload_n 0, 1), (43, .getfield 154, 3), (46, .ireturn, 1), (47, .aload_n 0, 1), (48, .getfield 194, 3), (51, .ireturn, 1), (52, .new 65, 3), (55, .dup, 1), (56, .ldc 197, 2), (58, .invokespecial 69, 3), (61, .athrow, 1)]
theorem d_S_count (i : Nat) {w : Instr × Nat} (e : go_fd t_S_count i = some w) : decode c_S_count i = .ok w := go_fd_ok (tab := t_S_count) (by decide +kernel) e
abbrev c_S_refuseUnknownStep : ByteArray := prog_1_method_21_code
def y_S_refuseUnknownStep : MethodName := ⟨RS, "refuseUnknownStep", "(I)V"⟩
def t_S_refuseUnknownStep : List (Nat × Instr × Nat) := [(0, .iload_n 0, 1), (1, .ifCond .lt 9, 3), (4, .iload_n 0, 1), (5, .bipush 10, 2), (7, .if_icmp .lt 13, 3), (10, .new 65, 3), (13, .dup, 1), (14, .ldc 199, 2), (16, .invokespecial 69, 3), (19, .athrow, 1), (20, .return_, 1)]
theorem d_S_refuseUnknownStep (i : Nat) {w : Instr × Nat} (e : go_fd t_S_refuseUnknownStep i = some w) : decode c_S_refuseUnknownStep i = .ok w := go_fd_ok (tab := t_S_refuseUnknownStep) (by decide +kernel) e
abbrev c_S_refuseUnknownSkill : ByteArray := prog_1_method_22_code
def y_S_refuseUnknownSkill : MethodName := ⟨RS, "refuseUnknownSkill", "(I)V"⟩
def t_S_refuseUnknownSkill : List (Nat × Instr × Nat) := [(0, .iload_n 0, 1), (1, .ifCond .lt 9, 3), (4, .iload_n 0, 1), (5, .bipush 8, 2), (7, .if_icmp .lt 13, 3), (10, .new 65, 3), (13, .dup, 1), (14, .ldc 201, 2), (16, .invokespecial 69, 3), (19, .athrow, 1), (20, .return_, 1)]
theorem d_S_refuseUnknownSkill (i : Nat) {w : Instr × Nat} (e : go_fd t_S_refuseUnknownSkill i = some w) : decode c_S_refuseUnknownSkill i = .ok w := go_fd_ok (tab := t_S_refuseUnknownSkill) (by decide +kernel) e
abbrev c_S_refuseOutside : ByteArray := prog_1_method_23_code
def y_S_refuseOutside : MethodName := ⟨RS, "refuseOutside", "(III)V"⟩
def t_S_refuseOutside : List (Nat × Instr × Nat) := [(0, .iload_n 0, 1), (1, .iload_n 1, 1), (2, .if_icmp .lt 8, 3), (5, .iload_n 0, 1), (6, .iload_n 2, 1), (7, .if_icmp .le 13, 3), (10, .new 203, 3), (13, .dup, 1), (14, .ldc 205, 2), (16, .invokespecial 207, 3), (19, .athrow, 1), (20, .return_, 1)]
theorem d_S_refuseOutside (i : Nat) {w : Instr × Nat} (e : go_fd t_S_refuseOutside i = some w) : decode c_S_refuseOutside i = .ok w := go_fd_ok (tab := t_S_refuseOutside) (by decide +kernel) e
abbrev c_S_refuseClosed : ByteArray := prog_1_method_24_code
def y_S_refuseClosed : MethodName := ⟨RS, "refuseClosed", "(LSecondWaves$Incident;)V"⟩
def t_S_refuseClosed : List (Nat × Instr × Nat) := [(0, .aload_n 0, 1), (1, .getfield 97, 3), (4, .ifCond .ne 13, 3), (7, .new 54, 3), (10, .dup, 1), (11, .ldc 208, 2), (13, .invokespecial 58, 3), (16, .athrow, 1), (17, .return_, 1)]
theorem d_S_refuseClosed (i : Nat) {w : Instr × Nat} (e : go_fd t_S_refuseClosed i = some w) : decode c_S_refuseClosed i = .ok w := go_fd_ok (tab := t_S_refuseClosed) (by decide +kernel) e
abbrev c_S_knownIncident : ByteArray := prog_1_method_25_code
def y_S_knownIncident : MethodName := ⟨RS, "knownIncident", "(I)LSecondWaves$Incident;"⟩
def t_S_knownIncident : List (Nat × Instr × Nat) := [(0, .iload_n 1, 1), (1, .ifCond .lt 11, 3), (4, .iload_n 1, 1), (5, .aload_n 0, 1), (6, .getfield 92, 3), (9, .if_icmp .lt 13, 3), (12, .new 65, 3), (15, .dup, 1), (16, .ldc 210, 2), (18, .invokespecial 69, 3), (21, .athrow, 1), (22, .aload_n 0, 1), (23, .getfield 26, 3), (26, .iload_n 1, 1), (27, .aaload, 1), (28, .areturn, 1)]
theorem d_S_knownIncident (i : Nat) {w : Instr × Nat} (e : go_fd t_S_knownIncident i = some w) : decode c_S_knownIncident i = .ok w := go_fd_ok (tab := t_S_knownIncident) (by decide +kernel) e
abbrev c_S_knownUnit : ByteArray := prog_1_method_26_code
def y_S_knownUnit : MethodName := ⟨RS, "knownUnit", "(I)LSecondWaves$Unit;"⟩
def t_S_knownUnit : List (Nat × Instr × Nat) := [(0, .iload_n 1, 1), (1, .ifCond .lt 11, 3), (4, .iload_n 1, 1), (5, .aload_n 0, 1), (6, .getfield 115, 3), (9, .if_icmp .lt 13, 3), (12, .new 65, 3), (15, .dup, 1), (16, .ldc 212, 2), (18, .invokespecial 69, 3), (21, .athrow, 1), (22, .aload_n 0, 1), (23, .getfield 32, 3), (26, .iload_n 1, 1), (27, .aaload, 1), (28, .areturn, 1)]
theorem d_S_knownUnit (i : Nat) {w : Instr × Nat} (e : go_fd t_S_knownUnit i = some w) : decode c_S_knownUnit i = .ok w := go_fd_ok (tab := t_S_knownUnit) (by decide +kernel) e
abbrev c_S_isAnyOpenAbove : ByteArray := prog_1_method_27_code
def y_S_isAnyOpenAbove : MethodName := ⟨RS, "isAnyOpenAbove", "(I)Z"⟩
def t_S_isAnyOpenAbove : List (Nat × Instr × Nat) := [(0, .iconst 0, 1), (1, .istore_n 2, 1), (2, .iload_n 2, 1), (3, .aload_n 0, 1), (4, .getfield 92, 3), (7, .if_icmp .ge 36, 3), (10, .aload_n 0, 1), (11, .getfield 26, 3), (14, .iload_n 2, 1), (15, .aaload, 1), (16, .getfield 97, 3), (19, .ifCond .eq 18, 3), (22, .aload_n 0, 1), (23, .getfield 26, 3), (26, .iload_n 2, 1), (27, .aaload, 1), (28, .getfield 142, 3), (31, .iload_n 1, 1), (32, .if_icmp .le 5, 3), (35, .iconst 1, 1), (36, .ireturn, 1), (37, .iinc 2 1, 3), (40, .goto (-38), 3), (43, .iconst 0, 1), (44, .ireturn, 1)]
theorem d_S_isAnyOpenAbove (i : Nat) {w : Instr × Nat} (e : go_fd t_S_isAnyOpenAbove i = some w) : decode c_S_isAnyOpenAbove i = .ok w := go_fd_ok (tab := t_S_isAnyOpenAbove) (by decide +kernel) e
abbrev c_S_hasTriggerForWord : ByteArray := prog_1_method_28_code
def y_S_hasTriggerForWord : MethodName := ⟨RS, "hasTriggerForWord", "(I)Z"⟩
def t_S_hasTriggerForWord : List (Nat × Instr × Nat) := [(0, .iconst 0, 1), (1, .istore_n 2, 1), (2, .iload_n 2, 1), (3, .aload_n 0, 1), (4, .getfield 77, 3), (7, .if_icmp .ge 26, 3), (10, .aload_n 0, 1), (11, .getfield 16, 3), (14, .iload_n 2, 1), (15, .aaload, 1), (16, .iconst 0, 1), (17, .iload_n 1, 1), (18, .iload_n 1, 1), (19, .invokevirtual 214, 3), (22, .ifCond .eq 5, 3), (25, .iconst 1, 1), (26, .ireturn, 1), (27, .iinc 2 1, 3), (30, .goto (-28), 3), (33, .iconst 0, 1), (34, .ireturn, 1)]
theorem d_S_hasTriggerForWord (i : Nat) {w : Instr × Nat} (e : go_fd t_S_hasTriggerForWord i = some w) : decode c_S_hasTriggerForWord i = .ok w := go_fd_ok (tab := t_S_hasTriggerForWord) (by decide +kernel) e
abbrev c_S_addSilence : ByteArray := prog_1_method_29_code
def y_S_addSilence : MethodName := ⟨RS, "addSilence", "(I)V"⟩
def t_S_addSilence : List (Nat × Instr × Nat) := [(0, .aload_n 0, 1), (1, .getfield 218, 3), (4, .istore_n 2, 1), (5, .aload_n 0, 1), (6, .dup, 1), (7, .getfield 218, 3), (10, .iconst 1, 1), (11, .iadd, 1), (12, .putfield 218, 3), (15, .iload_n 2, 1), (16, .ifCond .le 51, 3), (19, .aload_n 0, 1), (20, .getfield 16, 3), (23, .aload_n 0, 1), (24, .getfield 20, 3), (27, .iload_n 2, 1), (28, .iconst 1, 1), (29, .isub, 1), (30, .iaload, 1), (31, .aaload, 1), (32, .getfield 221, 3), (35, .aload_n 0, 1), (36, .getfield 16, 3), (39, .iload_n 1, 1), (40, .aaload, 1), (41, .getfield 221, 3), (44, .if_icmp .le 23, 3), (47, .aload_n 0, 1), (48, .getfield 20, 3), (51, .iload_n 2, 1), (52, .aload_n 0, 1), (53, .getfield 20, 3), (56, .iload_n 2, 1), (57, .iconst 1, 1), (58, .isub, 1), (59, .iaload, 1), (60, .iastore, 1), (61, .iinc 2 (-1), 3), (64, .goto (-49), 3), (67, .aload_n 0, 1), (68, .getfield 20, 3), (71, .iload_n 2, 1), (72, .iload_n 1, 1), (73, .iastore, 1), (74, .return_, 1)]
theorem d_S_addSilence (i : Nat) {w : Instr × Nat} (e : go_fd t_S_addSilence i = some w) : decode c_S_addSilence i = .ok w := go_fd_ok (tab := t_S_addSilence) (by decide +kernel) e
abbrev c_S_happened : ByteArray := prog_1_method_30_code
def y_S_happened : MethodName := ⟨RS, "happened", "(LSecondWaves$Incident;III)I"⟩
def t_S_happened : List (Nat × Instr × Nat) := [(0, .iconst 0, 1), (1, .istore 5, 2), (3, .iconst 0, 1), (4, .istore 6, 2), (6, .iload 6, 2), (8, .aload_n 0, 1), (9, .getfield 77, 3), (12, .if_icmp .ge 43, 3), (15, .aload_n 0, 1), (16, .getfield 16, 3), (19, .iload 6, 2), (21, .aaload, 1), (22, .iload_n 2, 1), (23, .iload_n 3, 1), (24, .iload 4, 2), (26, .invokevirtual 214, 3), (29, .ifCond .eq 20, 3), (32, .aload_n 0, 1), (33, .aload_n 1, 1), (34, .iload 6, 2), (36, .aload_n 0, 1), (37, .getfield 101, 3), (40, .invokevirtual 224, 3), (43, .ifCond .eq 6, 3), (46, .iinc 5 1, 3), (49, .iinc 6 1, 3), (52, .goto (-46), 3), (55, .iload 5, 2), (57, .ireturn, 1)]
theorem d_S_happened (i : Nat) {w : Instr × Nat} (e : go_fd t_S_happened i = some w) : decode c_S_happened i = .ok w := go_fd_ok (tab := t_S_happened) (by decide +kernel) e
abbrev c_S_stayedSilent : ByteArray := prog_1_method_31_code
def y_S_stayedSilent : MethodName := ⟨RS, "stayedSilent", "(LSecondWaves$Incident;I)I"⟩
def t_S_stayedSilent : List (Nat × Instr × Nat) := [(0, .iconst 0, 1), (1, .istore_n 3, 1), (2, .iconst 0, 1), (3, .istore 4, 2), (5, .iload 4, 2), (7, .aload_n 0, 1), (8, .getfield 218, 3), (11, .if_icmp .ge 66, 3), (14, .aload_n 1, 1), (15, .getfield 104, 3), (18, .aload_n 0, 1), (19, .getfield 16, 3), (22, .aload_n 0, 1), (23, .getfield 20, 3), (26, .iload 4, 2), (28, .iaload, 1), (29, .aaload, 1), (30, .getfield 221, 3), (33, .iadd, 1), (34, .istore 5, 2), (36, .iload 5, 2), (38, .aload_n 0, 1), (39, .getfield 101, 3), (42, .if_icmp .le 29, 3), (45, .iload 5, 2), (47, .iload_n 2, 1), (48, .if_icmp .gt 23, 3), (51, .aload_n 0, 1), (52, .aload_n 1, 1), (53, .aload_n 0, 1), (54, .getfield 20, 3), (57, .iload 4, 2), (59, .iaload, 1), (60, .iload 5, 2), (62, .invokevirtual 224, 3), (65, .ifCond .eq 6, 3), (68, .iinc 3 1, 3), (71, .iinc 4 1, 3), (74, .goto (-69), 3), (77, .iload_n 3, 1), (78, .ireturn, 1)]
theorem d_S_stayedSilent (i : Nat) {w : Instr × Nat} (e : go_fd t_S_stayedSilent i = some w) : decode c_S_stayedSilent i = .ok w := go_fd_ok (tab := t_S_stayedSilent) (by decide +kernel) e
abbrev c_S_act : ByteArray := prog_1_method_32_code
def y_S_act : MethodName := ⟨RS, "act", "(LSecondWaves$Incident;II)Z"⟩
def t_S_act : List (Nat × Instr × Nat) := [(0, .aload_n 0, 1), (1, .getfield 16, 3), (4, .iload_n 2, 1), (5, .aaload, 1), (6, .astore 4, 2), (8, .aload_n 1, 1), (9, .getfield 228, 3), (12, .iload_n 2, 1), (13, .iaload, 1), (14, .istore 5, 2), (16, .iload 5, 2), (18, .iconst (-1), 1), (19, .if_icmp .eq 17, 3), (22, .iload_n 3, 1), (23, .iload 5, 2), (25, .isub, 1), (26, .aload 4, 2), (28, .getfield 231, 3), (31, .if_icmp .ge 5, 3), (34, .iconst 0, 1), (35, .ireturn, 1), (36, .aload_n 1, 1), (37, .getfield 228, 3), (40, .iload_n 2, 1), (41, .iload_n 3, 1), (42, .iastore, 1), (43, .aload_n 1, 1), (44, .dup, 1), (45, .getfield 181, 3), (48, .iconst 1, 1), (49, .iadd, 1), (50, .putfield 181, 3), (53, .aload 4, 2), (55, .dup, 1), (56, .getfield 193, 3), (59, .iconst 1, 1), (60, .iadd, 1), (61, .putfield 193, 3), (64, .aload_n 0, 1), (65, .aload_n 1, 1), (66, .aload 4, 2), (68, .getfield 234, 3), (71, .aload_n 0, 1), (72, .getfield 61, 3), (75, .invokestatic 235, 3), (78, .invokevirtual 240, 3), (81, .iconst 1, 1), (82, .ireturn, 1)]
theorem d_S_act (i : Nat) {w : Instr × Nat} (e : go_fd t_S_act i = some w) : decode c_S_act i = .ok w := go_fd_ok (tab := t_S_act) (by decide +kernel) e
abbrev c_S_raise : ByteArray := prog_1_method_33_code
def y_S_raise : MethodName := ⟨RS, "raise", "(LSecondWaves$Incident;I)V"⟩
def t_S_raise : List (Nat × Instr × Nat) := [(0, .iload_n 2, 1), (1, .aload_n 1, 1), (2, .getfield 142, 3), (5, .if_icmp .le 21, 3), (8, .aload_n 1, 1), (9, .iload_n 2, 1), (10, .putfield 142, 3), (13, .aload_n 1, 1), (14, .dup, 1), (15, .getfield 184, 3), (18, .iconst 1, 1), (19, .iadd, 1), (20, .putfield 184, 3), (23, .goto 13, 3), (26, .aload_n 0, 1), (27, .dup, 1), (28, .getfield 194, 3), (31, .iconst 1, 1), (32, .iadd, 1), (33, .putfield 194, 3), (36, .return_, 1)]
theorem d_S_raise (i : Nat) {w : Instr × Nat} (e : go_fd t_S_raise i = some w) : decode c_S_raise i = .ok w := go_fd_ok (tab := t_S_raise) (by decide +kernel) e
abbrev c_S_unitsFor : ByteArray := prog_1_method_34_code
def y_S_unitsFor : MethodName := ⟨RS, "unitsFor", "(II)I"⟩
def t_S_unitsFor : List (Nat × Instr × Nat) := [(0, .iconst 0, 1), (1, .istore_n 3, 1), (2, .iconst 0, 1), (3, .istore 4, 2), (5, .iload 4, 2), (7, .aload_n 0, 1), (8, .getfield 115, 3), (11, .if_icmp .ge 27, 3), (14, .aload_n 0, 1), (15, .getfield 32, 3), (18, .iload 4, 2), (20, .aaload, 1), (21, .iload_n 1, 1), (22, .iload_n 2, 1), (23, .invokevirtual 244, 3), (26, .ifCond .eq 6, 3), (29, .iinc 3 1, 3), (32, .iinc 4 1, 3), (35, .goto (-30), 3), (38, .iload_n 3, 1), (39, .ireturn, 1)]
theorem d_S_unitsFor (i : Nat) {w : Instr × Nat} (e : go_fd t_S_unitsFor i = some w) : decode c_S_unitsFor i = .ok w := go_fd_ok (tab := t_S_unitsFor) (by decide +kernel) e
abbrev c_S_recallTooMuch : ByteArray := prog_1_method_35_code
def y_S_recallTooMuch : MethodName := ⟨RS, "recallTooMuch", "(III)I"⟩
def t_S_recallTooMuch : List (Nat × Instr × Nat) := [(0, .aload_n 0, 1), (1, .iload_n 1, 1), (2, .iload_n 2, 1), (3, .invokevirtual 177, 3), (6, .iload_n 3, 1), (7, .isub, 1), (8, .iconst 0, 1), (9, .invokestatic 247, 3), (12, .istore 4, 2), (14, .iconst 0, 1), (15, .istore 5, 2), (17, .iload 5, 2), (19, .iload 4, 2), (21, .if_icmp .ge 15, 3), (24, .aload_n 0, 1), (25, .iload_n 1, 1), (26, .iload_n 2, 1), (27, .invokevirtual 250, 3), (30, .iinc 5 1, 3), (33, .goto (-16), 3), (36, .iload 4, 2), (38, .ireturn, 1)]
theorem d_S_recallTooMuch (i : Nat) {w : Instr × Nat} (e : go_fd t_S_recallTooMuch i = some w) : decode c_S_recallTooMuch i = .ok w := go_fd_ok (tab := t_S_recallTooMuch) (by decide +kernel) e
abbrev c_S_recallOne : ByteArray := prog_1_method_36_code
def y_S_recallOne : MethodName := ⟨RS, "recallOne", "(II)V"⟩
def t_S_recallOne : List (Nat × Instr × Nat) := [(0, .iconst (-1), 1), (1, .istore_n 3, 1), (2, .iconst 0, 1), (3, .istore 4, 2), (5, .iload 4, 2), (7, .aload_n 0, 1), (8, .getfield 115, 3), (11, .if_icmp .ge 51, 3), (14, .aload_n 0, 1), (15, .getfield 32, 3), (18, .iload 4, 2), (20, .aaload, 1), (21, .iload_n 1, 1), (22, .iload_n 2, 1), (23, .invokevirtual 244, 3), (26, .ifCond .eq 30, 3), (29, .iload_n 3, 1), (30, .iconst (-1), 1), (31, .if_icmp .eq 22, 3), (34, .aload_n 0, 1), (35, .getfield 32, 3), (38, .iload 4, 2), (40, .aaload, 1), (41, .aload_n 0, 1), (42, .getfield 32, 3), (45, .iload_n 3, 1), (46, .aaload, 1), (47, .invokevirtual 254, 3), (50, .ifCond .eq 6, 3), (53, .iload 4, 2), (55, .istore_n 3, 1), (56, .iinc 4 1, 3), (59, .goto (-54), 3), (62, .iload_n 3, 1), (63, .iconst (-1), 1), (64, .if_icmp .eq 12, 3), (67, .aload_n 0, 1), (68, .getfield 32, 3), (71, .iload_n 3, 1), (72, .aaload, 1), (73, .invokevirtual 121, 3), (76, .return_, 1)]
theorem d_S_recallOne (i : Nat) {w : Instr × Nat} (e : go_fd t_S_recallOne i = some w) : decode c_S_recallOne i = .ok w := go_fd_ok (tab := t_S_recallOne) (by decide +kernel) e
abbrev c_M_init : ByteArray := prog_6_method_1_code
def y_M_init : MethodName := ⟨RM, "<init>", "()V"⟩
def t_M_init : List (Nat × Instr × Nat) := [(0, .aload_n 0, 1), (1, .invokespecial 1, 3), (4, .aload_n 0, 1), (5, .bipush 80, 2), (7, .newarray .int, 2), (9, .putfield 7, 3), (12, .aload_n 0, 1), (13, .bipush 20, 2), (15, .newarray .int, 2), (17, .putfield 13, 3), (20, .aload_n 0, 1), (21, .bipush 20, 2), (23, .newarray .int, 2), (25, .putfield 16, 3), (28, .aload_n 0, 1), (29, .bipush 20, 2), (31, .newarray .int, 2), (33, .putfield 19, 3), (36, .aload_n 0, 1), (37, .bipush 20, 2), (39, .newarray .int, 2), (41, .putfield 22, 3), (44, .aload_n 0, 1), (45, .bipush 20, 2), (47, .newarray .int, 2), (49, .putfield 25, 3), (52, .aload_n 0, 1), (53, .bipush 12, 2), (55, .newarray .boolean, 2), (57, .putfield 28, 3), (60, .aload_n 0, 1), (61, .bipush 12, 2), (63, .newarray .int, 2), (65, .putfield 32, 3), (68, .aload_n 0, 1), (69, .bipush 12, 2), (71, .newarray .int, 2), (73, .putfield 35, 3), (76, .aload_n 0, 1), (77, .bipush 12, 2), (79, .newarray .int, 2), (81, .putfield 38, 3), (84, .aload_n 0, 1), (85, .bipush 12, 2), (87, .newarray .int, 2), (89, .putfield 41, 3), (92, .aload_n 0, 1), (93, .bipush 12, 2), (95, .newarray .int, 2), (97, .putfield 44, 3), (100, .aload_n 0, 1), (101, .bipush 12, 2), (103, .newarray .int, 2), (105, .putfield 47, 3), (108, .aload_n 0, 1), (109, .sipush 240, 3), (112, .newarray .int, 2), (114, .putfield 50, 3), (117, .aload_n 0, 1), (118, .bipush 40, 2), (120, .newarray .int, 2), (122, .putfield 53, 3), (125, .aload_n 0, 1), (126, .bipush 40, 2), (128, .newarray .int, 2), (130, .putfield 56, 3), (133, .aload_n 0, 1), (134, .bipush 40, 2), (136, .newarray .int, 2), (138, .putfield 59, 3), (141, .aload_n 0, 1), (142, .bipush 40, 2), (144, .newarray .int, 2), (146, .putfield 62, 3), (149, .iconst 0, 1), (150, .istore_n 1, 1), (151, .iload_n 1, 1), (152, .sipush 240, 3), (155, .if_icmp .ge 17, 3), (158, .aload_n 0, 1), (159, .getfield 50, 3), (162, .iload_n 1, 1), (163, .ldc 65, 2), (165, .iastore, 1), (166, .iinc 1 1, 3), (169, .goto (-18), 3), (172, .return_, 1)]
theorem d_M_init (i : Nat) {w : Instr × Nat} (e : go_fd t_M_init i = some w) : decode c_M_init i = .ok w := go_fd_ok (tab := t_M_init) (by decide +kernel) e
abbrev c_M_thrown : ByteArray := prog_6_method_2_code
def y_M_thrown : MethodName := ⟨RM, "thrown", "()I"⟩
def t_M_thrown : List (Nat × Instr × Nat) := [(0, .aload_n 0, 1), (1, .getfield 66, 3), (4, .ireturn, 1)]
theorem d_M_thrown (i : Nat) {w : Instr × Nat} (e : go_fd t_M_thrown i = some w) : decode c_M_thrown i = .ok w := go_fd_ok (tab := t_M_thrown) (by decide +kernel) e
abbrev c_M_throwing : ByteArray := prog_6_method_3_code
def y_M_throwing : MethodName := ⟨RM, "throwing", "(ZZZ)Z"⟩
def t_M_throwing : List (Nat × Instr × Nat) := [(0, .aload_n 0, 1), (1, .iload_n 1, 1), (2, .ifCond .eq 7, 3), (5, .iconst 1, 1), (6, .goto 20, 3), (9, .iload_n 2, 1), (10, .ifCond .eq 7, 3), (13, .iconst 2, 1), (14, .goto 12, 3), (17, .iload_n 3, 1), (18, .ifCond .eq 7, 3), (21, .iconst 3, 1), (22, .goto 4, 3), (25, .iconst 0, 1), (26, .putfield 66, 3), (29, .aload_n 0, 1), (30, .getfield 66, 3), (33, .ifCond .le 7, 3), (36, .iconst 1, 1), (37, .goto 4, 3), (40, .iconst 0, 1), (41, .ireturn, 1)]
theorem d_M_throwing (i : Nat) {w : Instr × Nat} (e : go_fd t_M_throwing i = some w) : decode c_M_throwing i = .ok w := go_fd_ok (tab := t_M_throwing) (by decide +kernel) e
abbrev c_M_in : ByteArray := prog_6_method_4_code
def y_M_in : MethodName := ⟨RM, "in", "(III)Z"⟩
def t_M_in : List (Nat × Instr × Nat) := [(0, .iload_n 0, 1), (1, .iload_n 1, 1), (2, .if_icmp .lt 12, 3), (5, .iload_n 0, 1), (6, .iload_n 2, 1), (7, .if_icmp .gt 7, 3), (10, .iconst 1, 1), (11, .goto 4, 3), (14, .iconst 0, 1), (15, .ireturn, 1)]
theorem d_M_in (i : Nat) {w : Instr × Nat} (e : go_fd t_M_in i = some w) : decode c_M_in i = .ok w := go_fd_ok (tab := t_M_in) (by decide +kernel) e
abbrev c_M_isIncident : ByteArray := prog_6_method_5_code
def y_M_isIncident : MethodName := ⟨RM, "isIncident", "(I)Z"⟩
def t_M_isIncident : List (Nat × Instr × Nat) := [(0, .iload_n 1, 1), (1, .iconst 0, 1), (2, .aload_n 0, 1), (3, .getfield 70, 3), (6, .iconst 1, 1), (7, .isub, 1), (8, .invokestatic 73, 3), (11, .ireturn, 1)]
theorem d_M_isIncident (i : Nat) {w : Instr × Nat} (e : go_fd t_M_isIncident i = some w) : decode c_M_isIncident i = .ok w := go_fd_ok (tab := t_M_isIncident) (by decide +kernel) e
abbrev c_M_isClosed : ByteArray := prog_6_method_6_code
def y_M_isClosed : MethodName := ⟨RM, "isClosed", "(I)Z"⟩
def t_M_isClosed : List (Nat × Instr × Nat) := [(0, .aload_n 0, 1), (1, .iload_n 1, 1), (2, .invokevirtual 77, 3), (5, .ifCond .eq 16, 3), (8, .aload_n 0, 1), (9, .getfield 28, 3), (12, .iload_n 1, 1), (13, .baload, 1), (14, .ifCond .ne 7, 3), (17, .iconst 1, 1), (18, .goto 4, 3), (21, .iconst 0, 1), (22, .ireturn, 1)]
theorem d_M_isClosed (i : Nat) {w : Instr × Nat} (e : go_fd t_M_isClosed i = some w) : decode c_M_isClosed i = .ok w := go_fd_ok (tab := t_M_isClosed) (by decide +kernel) e
abbrev c_M_isUnit : ByteArray := prog_6_method_7_code
def y_M_isUnit : MethodName := ⟨RM, "isUnit", "(I)Z"⟩
def t_M_isUnit : List (Nat × Instr × Nat) := [(0, .iload_n 1, 1), (1, .iconst 0, 1), (2, .aload_n 0, 1), (3, .getfield 81, 3), (6, .iconst 1, 1), (7, .isub, 1), (8, .invokestatic 73, 3), (11, .ireturn, 1)]
theorem d_M_isUnit (i : Nat) {w : Instr × Nat} (e : go_fd t_M_isUnit i = some w) : decode c_M_isUnit i = .ok w := go_fd_ok (tab := t_M_isUnit) (by decide +kernel) e
abbrev c_M_row : ByteArray := prog_6_method_8_code
def y_M_row : MethodName := ⟨RM, "row", "(III)V"⟩
def t_M_row : List (Nat × Instr × Nat) := [(0, .aload_n 0, 1), (1, .iload_n 1, 1), (2, .iconst 0, 1), (3, .bipush 9, 2), (5, .invokestatic 73, 3), (8, .ifCond .eq 13, 3), (11, .iload_n 2, 1), (12, .iconst 0, 1), (13, .bipush 7, 2), (15, .invokestatic 73, 3), (18, .ifCond .ne 7, 3), (21, .iconst 1, 1), (22, .goto 4, 3), (25, .iconst 0, 1), (26, .iload_n 3, 1), (27, .iconst 0, 1), (28, .bipush 30, 2), (30, .invokestatic 73, 3), (33, .ifCond .ne 7, 3), (36, .iconst 1, 1), (37, .goto 4, 3), (40, .iconst 0, 1), (41, .iconst 0, 1), (42, .invokevirtual 84, 3), (45, .ifCond .eq 4, 3), (48, .return_, 1), (49, .aload_n 0, 1), (50, .getfield 7, 3), (53, .bipush 8, 2), (55, .iload_n 1, 1), (56, .imul, 1), (57, .iload_n 2, 1), (58, .iadd, 1), (59, .iload_n 3, 1), (60, .iastore, 1), (61, .return_, 1)]
theorem d_M_row (i : Nat) {w : Instr × Nat} (e : go_fd t_M_row i = some w) : decode c_M_row i = .ok w := go_fd_ok (tab := t_M_row) (by decide +kernel) e
abbrev c_M_top : ByteArray := prog_6_method_9_code
def y_M_top : MethodName := ⟨RM, "top", "(I)V"⟩
def t_M_top : List (Nat × Instr × Nat) := [(0, .iconst 0, 1), (1, .istore_n 2, 1), (2, .iconst 0, 1), (3, .istore_n 3, 1), (4, .iload_n 3, 1), (5, .aload_n 0, 1), (6, .getfield 70, 3), (9, .if_icmp .ge 38, 3), (12, .iload_n 2, 1), (13, .ifCond .ne 22, 3), (16, .aload_n 0, 1), (17, .getfield 28, 3), (20, .iload_n 3, 1), (21, .baload, 1), (22, .ifCond .eq 17, 3), (25, .aload_n 0, 1), (26, .getfield 32, 3), (29, .iload_n 3, 1), (30, .iaload, 1), (31, .iload_n 1, 1), (32, .if_icmp .le 7, 3), (35, .iconst 1, 1), (36, .goto 4, 3), (39, .iconst 0, 1), (40, .istore_n 2, 1), (41, .iinc 3 1, 3), (44, .goto (-40), 3), (47, .aload_n 0, 1), (48, .iload_n 1, 1), (49, .iconst 0, 1), (50, .bipush 9, 2), (52, .invokestatic 73, 3), (55, .ifCond .ne 7, 3), (58, .iconst 1, 1), (59, .goto 4, 3), (62, .iconst 0, 1), (63, .iload_n 2, 1), (64, .iconst 0, 1), (65, .invokevirtual 84, 3), (68, .ifCond .eq 4, 3), (71, .return_, 1), (72, .aload_n 0, 1), (73, .iload_n 1, 1), (74, .putfield 88, 3), (77, .return_, 1)]
theorem d_M_top (i : Nat) {w : Instr × Nat} (e : go_fd t_M_top i = some w) : decode c_M_top i = .ok w := go_fd_ok (tab := t_M_top) (by decide +kernel) e
abbrev c_M_trigger : ByteArray := prog_6_method_10_code
def y_M_trigger : MethodName := ⟨RM, "trigger", "(IIII)I"⟩
def t_M_trigger : List (Nat × Instr × Nat) := [(0, .iload_n 1, 1), (1, .iconst 0, 1), (2, .iconst 3, 1), (3, .invokestatic 73, 3), (6, .ifCond .eq 13, 3), (9, .iload_n 3, 1), (10, .iconst 0, 1), (11, .bipush 9, 2), (13, .invokestatic 73, 3), (16, .ifCond .ne 7, 3), (19, .iconst 1, 1), (20, .goto 4, 3), (23, .iconst 0, 1), (24, .istore 5, 2), (26, .iload_n 1, 1), (27, .ifCond .ne 13, 3), (30, .iload_n 2, 1), (31, .iconst 0, 1), (32, .bipush 99, 2), (34, .invokestatic 73, 3), (37, .goto 41, 3), (40, .iload_n 1, 1), (41, .iconst 1, 1), (42, .if_icmp .ne 14, 3), (45, .iload_n 2, 1), (46, .iconst 1, 1), (47, .sipush 1000, 3), (50, .invokestatic 73, 3), (53, .goto 25, 3), (56, .iload_n 1, 1), (57, .iconst 2, 1), (58, .if_icmp .ne 13, 3), (61, .iload_n 2, 1), (62, .iconst 1, 1), (63, .ldc 91, 2), (65, .invokestatic 73, 3), (68, .goto 10, 3), (71, .iload_n 2, 1), (72, .iconst 0, 1), (73, .bipush 9, 2), (75, .invokestatic 73, 3), (78, .istore 6, 2), (80, .aload_n 0, 1), (81, .iload 5, 2), (83, .iload 6, 2), (85, .ifCond .eq 14, 3), (88, .iload 4, 2), (90, .iconst 0, 1), (91, .ldc 91, 2), (93, .invokestatic 73, 3), (96, .ifCond .ne 7, 3), (99, .iconst 1, 1), (100, .goto 4, 3), (103, .iconst 0, 1), (104, .aload_n 0, 1), (105, .getfield 92, 3), (108, .bipush 20, 2), (110, .if_icmp .ne 7, 3), (113, .iconst 1, 1), (114, .goto 4, 3), (117, .iconst 0, 1), (118, .invokevirtual 84, 3), (121, .ifCond .eq 5, 3), (124, .iconst 0, 1), (125, .ireturn, 1), (126, .aload_n 0, 1), (127, .getfield 13, 3), (130, .aload_n 0, 1), (131, .getfield 92, 3), (134, .iload_n 1, 1), (135, .iastore, 1), (136, .aload_n 0, 1), (137, .getfield 16, 3), (140, .aload_n 0, 1), (141, .getfield 92, 3), (144, .iload_n 2, 1), (145, .iastore, 1), (146, .aload_n 0, 1), (147, .getfield 19, 3), (150, .aload_n 0, 1), (151, .getfield 92, 3), (154, .iload_n 3, 1), (155, .iastore, 1), (156, .aload_n 0, 1), (157, .getfield 22, 3), (160, .aload_n 0, 1), (161, .getfield 92, 3), (164, .iload 4, 2), (166, .iastore, 1), (167, .aload_n 0, 1), (168, .dup, 1), (169, .getfield 92, 3), (172, .iconst 1, 1), (173, .iadd, 1), (174, .putfield 92, 3), (177, .aload_n 0, 1), (178, .getfield 92, 3), (181, .iconst 1, 1), (182, .isub, 1), (183, .ireturn, 1)]
theorem d_M_trigger (i : Nat) {w : Instr × Nat} (e : go_fd t_M_trigger i = some w) : decode c_M_trigger i = .ok w := go_fd_ok (tab := t_M_trigger) (by decide +kernel) e
abbrev c_M_begin : ByteArray := prog_6_method_11_code
def y_M_begin : MethodName := ⟨RM, "begin", "()I"⟩
def t_M_begin : List (Nat × Instr × Nat) := [(0, .aload_n 0, 1), (1, .aload_n 0, 1), (2, .getfield 70, 3), (5, .bipush 12, 2), (7, .if_icmp .ne 7, 3), (10, .iconst 1, 1), (11, .goto 4, 3), (14, .iconst 0, 1), (15, .iconst 0, 1), (16, .iconst 0, 1), (17, .invokevirtual 84, 3), (20, .ifCond .eq 5, 3), (23, .iconst 0, 1), (24, .ireturn, 1), (25, .aload_n 0, 1), (26, .getfield 28, 3), (29, .aload_n 0, 1), (30, .getfield 70, 3), (33, .iconst 1, 1), (34, .bastore, 1), (35, .aload_n 0, 1), (36, .getfield 38, 3), (39, .aload_n 0, 1), (40, .getfield 70, 3), (43, .aload_n 0, 1), (44, .getfield 95, 3), (47, .iastore, 1), (48, .aload_n 0, 1), (49, .dup, 1), (50, .getfield 70, 3), (53, .iconst 1, 1), (54, .iadd, 1), (55, .putfield 70, 3), (58, .aload_n 0, 1), (59, .getfield 70, 3), (62, .iconst 1, 1), (63, .isub, 1), (64, .ireturn, 1)]
theorem d_M_begin (i : Nat) {w : Instr × Nat} (e : go_fd t_M_begin i = some w) : decode c_M_begin i = .ok w := go_fd_ok (tab := t_M_begin) (by decide +kernel) e
abbrev c_M_free : ByteArray := prog_6_method_12_code
def y_M_free : MethodName := ⟨RM, "free", "(I)V"⟩
def t_M_free : List (Nat × Instr × Nat) := [(0, .aload_n 0, 1), (1, .getfield 56, 3), (4, .iload_n 1, 1), (5, .iconst 0, 1), (6, .iastore, 1), (7, .aload_n 0, 1), (8, .getfield 59, 3), (11, .iload_n 1, 1), (12, .iconst (-1), 1), (13, .iastore, 1), (14, .aload_n 0, 1), (15, .getfield 62, 3), (18, .iload_n 1, 1), (19, .iconst (-1), 1), (20, .iastore, 1), (21, .return_, 1)]
theorem d_M_free (i : Nat) {w : Instr × Nat} (e : go_fd t_M_free i = some w) : decode c_M_free i = .ok w := go_fd_ok (tab := t_M_free) (by decide +kernel) e
abbrev c_M_isWith : ByteArray := prog_6_method_13_code
def y_M_isWith : MethodName := ⟨RM, "isWith", "(II)Z"⟩
def t_M_isWith : List (Nat × Instr × Nat) := [(0, .aload_n 0, 1), (1, .getfield 56, 3), (4, .iload_n 1, 1), (5, .iaload, 1), (6, .ifCond .eq 17, 3), (9, .aload_n 0, 1), (10, .getfield 59, 3), (13, .iload_n 1, 1), (14, .iaload, 1), (15, .iload_n 2, 1), (16, .if_icmp .ne 7, 3), (19, .iconst 1, 1), (20, .goto 4, 3), (23, .iconst 0, 1), (24, .ireturn, 1)]
theorem d_M_isWith (i : Nat) {w : Instr × Nat} (e : go_fd t_M_isWith i = some w) : decode c_M_isWith i = .ok w := go_fd_ok (tab := t_M_isWith) (by decide +kernel) e
abbrev c_M_close : ByteArray := prog_6_method_14_code
def y_M_close : MethodName := ⟨RM, "close", "(I)V"⟩
def t_M_close : List (Nat × Instr × Nat) := [(0, .aload_n 0, 1), (1, .aload_n 0, 1), (2, .iload_n 1, 1), (3, .invokevirtual 77, 3), (6, .ifCond .ne 7, 3), (9, .iconst 1, 1), (10, .goto 4, 3), (13, .iconst 0, 1), (14, .aload_n 0, 1), (15, .iload_n 1, 1), (16, .invokevirtual 98, 3), (19, .iconst 0, 1), (20, .invokevirtual 84, 3), (23, .ifCond .eq 4, 3), (26, .return_, 1), (27, .aload_n 0, 1), (28, .getfield 28, 3), (31, .iload_n 1, 1), (32, .iconst 0, 1), (33, .bastore, 1), (34, .iconst 0, 1), (35, .istore_n 2, 1), (36, .iload_n 2, 1), (37, .aload_n 0, 1), (38, .getfield 81, 3), (41, .if_icmp .ge 23, 3), (44, .aload_n 0, 1), (45, .iload_n 2, 1), (46, .iload_n 1, 1), (47, .invokevirtual 101, 3), (50, .ifCond .eq 8, 3), (53, .aload_n 0, 1), (54, .iload_n 2, 1), (55, .invokevirtual 105, 3), (58, .iinc 2 1, 3), (61, .goto (-25), 3), (64, .return_, 1)]
theorem d_M_close (i : Nat) {w : Instr × Nat} (e : go_fd t_M_close i = some w) : decode c_M_close i = .ok w := go_fd_ok (tab := t_M_close) (by decide +kernel) e
abbrev c_M_act : ByteArray := prog_6_method_15_code
def y_M_act : MethodName := ⟨RM, "act", "(II)I"⟩
def t_M_act : List (Nat × Instr × Nat) := [(0, .aload_n 0, 1), (1, .getfield 95, 3), (4, .aload_n 0, 1), (5, .getfield 50, 3), (8, .bipush 20, 2), (10, .iload_n 2, 1), (11, .imul, 1), (12, .iload_n 1, 1), (13, .iadd, 1), (14, .iaload, 1), (15, .isub, 1), (16, .aload_n 0, 1), (17, .getfield 22, 3), (20, .iload_n 1, 1), (21, .iaload, 1), (22, .if_icmp .ge 5, 3), (25, .iconst 0, 1), (26, .ireturn, 1), (27, .aload_n 0, 1), (28, .getfield 50, 3), (31, .bipush 20, 2), (33, .iload_n 2, 1), (34, .imul, 1), (35, .iload_n 1, 1), (36, .iadd, 1), (37, .aload_n 0, 1), (38, .getfield 95, 3), (41, .iastore, 1), (42, .aload_n 0, 1), (43, .getfield 25, 3), (46, .iload_n 1, 1), (47, .dup2, 1), (48, .iaload, 1), (49, .iconst 1, 1), (50, .iadd, 1), (51, .iastore, 1), (52, .aload_n 0, 1), (53, .getfield 41, 3), (56, .iload_n 2, 1), (57, .dup2, 1), (58, .iaload, 1), (59, .iconst 1, 1), (60, .iadd, 1), (61, .iastore, 1), (62, .aload_n 0, 1), (63, .getfield 19, 3), (66, .iload_n 1, 1), (67, .iaload, 1), (68, .aload_n 0, 1), (69, .getfield 88, 3), (72, .if_icmp .ge 12, 3), (75, .aload_n 0, 1), (76, .getfield 19, 3), (79, .iload_n 1, 1), (80, .iaload, 1), (81, .goto 7, 3), (84, .aload_n 0, 1), (85, .getfield 88, 3), (88, .istore_n 3, 1), (89, .iload_n 3, 1), (90, .aload_n 0, 1), (91, .getfield 32, 3), (94, .iload_n 2, 1), (95, .iaload, 1), (96, .if_icmp .le 23, 3), (99, .aload_n 0, 1), (100, .getfield 32, 3), (103, .iload_n 2, 1), (104, .iload_n 3, 1), (105, .iastore, 1), (106, .aload_n 0, 1), (107, .getfield 44, 3), (110, .iload_n 2, 1), (111, .dup2, 1), (112, .iaload, 1), (113, .iconst 1, 1), (114, .iadd, 1), (115, .iastore, 1), (116, .goto 13, 3), (119, .aload_n 0, 1), (120, .dup, 1), (121, .getfield 109, 3), (124, .iconst 1, 1), (125, .iadd, 1), (126, .putfield 109, 3), (129, .iconst 1, 1), (130, .ireturn, 1)]
theorem d_M_act (i : Nat) {w : Instr × Nat} (e : go_fd t_M_act i = some w) : decode c_M_act i = .ok w := go_fd_ok (tab := t_M_act) (by decide +kernel) e
abbrev c_M_all : ByteArray := prog_6_method_16_code
def y_M_all : MethodName := ⟨RM, "all", "(III)I"⟩
def t_M_all : List (Nat × Instr × Nat) := [(0, .iconst 0, 1), (1, .istore 4, 2), (3, .iconst 0, 1), (4, .istore 5, 2), (6, .iload 5, 2), (8, .aload_n 0, 1), (9, .getfield 92, 3), (12, .if_icmp .ge 47, 3), (15, .iload 4, 2), (17, .aload_n 0, 1), (18, .getfield 13, 3), (21, .iload 5, 2), (23, .iaload, 1), (24, .iload_n 1, 1), (25, .if_icmp .ne 24, 3), (28, .aload_n 0, 1), (29, .getfield 16, 3), (32, .iload 5, 2), (34, .iaload, 1), (35, .iload_n 2, 1), (36, .if_icmp .ne 13, 3), (39, .aload_n 0, 1), (40, .iload 5, 2), (42, .iload_n 3, 1), (43, .invokevirtual 112, 3), (46, .goto 4, 3), (49, .iconst 0, 1), (50, .iadd, 1), (51, .istore 4, 2), (53, .iinc 5 1, 3), (56, .goto (-50), 3), (59, .iload 4, 2), (61, .ireturn, 1)]
theorem d_M_all (i : Nat) {w : Instr × Nat} (e : go_fd t_M_all i = some w) : decode c_M_all i = .ok w := go_fd_ok (tab := t_M_all) (by decide +kernel) e
abbrev c_M_tick : ByteArray := prog_6_method_17_code
def y_M_tick : MethodName := ⟨RM, "tick", "(I)I"⟩
def t_M_tick : List (Nat × Instr × Nat) := [(0, .aload_n 0, 1), (1, .iload_n 1, 1), (2, .iconst 1, 1), (3, .sipush 5000, 3), (6, .invokestatic 73, 3), (9, .ifCond .eq 14, 3), (12, .aload_n 0, 1), (13, .getfield 95, 3), (16, .iload_n 1, 1), (17, .iadd, 1), (18, .ldc 116, 2), (20, .if_icmp .le 7, 3), (23, .iconst 1, 1), (24, .goto 4, 3), (27, .iconst 0, 1), (28, .iconst 0, 1), (29, .iconst 0, 1), (30, .invokevirtual 84, 3), (33, .ifCond .eq 5, 3), (36, .iconst 0, 1), (37, .ireturn, 1), (38, .iconst 0, 1), (39, .istore_n 2, 1), (40, .iconst 0, 1), (41, .istore_n 3, 1), (42, .iload_n 3, 1), (43, .iload_n 1, 1), (44, .if_icmp .ge 73, 3), (47, .aload_n 0, 1), (48, .dup, 1), (49, .getfield 95, 3), (52, .iconst 1, 1), (53, .iadd, 1), (54, .putfield 95, 3), (57, .iconst 0, 1), (58, .istore 4, 2), (60, .iload 4, 2), (62, .aload_n 0, 1), (63, .getfield 70, 3), (66, .if_icmp .ge 45, 3), (69, .iload_n 2, 1), (70, .aload_n 0, 1), (71, .getfield 28, 3), (74, .iload 4, 2), (76, .baload, 1), (77, .ifCond .eq 25, 3), (80, .aload_n 0, 1), (81, .iconst 2, 1), (82, .aload_n 0, 1), (83, .getfield 95, 3), (86, .aload_n 0, 1), (87, .getfield 38, 3), (90, .iload 4, 2), (92, .iaload, 1), (93, .isub, 1), (94, .iload 4, 2), (96, .invokevirtual 117, 3), (99, .goto 4, 3), (102, .iconst 0, 1), (103, .iadd, 1), (104, .istore_n 2, 1), (105, .iinc 4 1, 3), (108, .goto (-48), 3), (111, .iinc 3 1, 3), (114, .goto (-72), 3), (117, .iload_n 2, 1), (118, .ireturn, 1)]
theorem d_M_tick (i : Nat) {w : Instr × Nat} (e : go_fd t_M_tick i = some w) : decode c_M_tick i = .ok w := go_fd_ok (tab := t_M_tick) (by decide +kernel) e
abbrev c_M_word : ByteArray := prog_6_method_18_code
def y_M_word : MethodName := ⟨RM, "word", "(II)I"⟩
def t_M_word : List (Nat × Instr × Nat) := [(0, .aload_n 0, 1), (1, .aload_n 0, 1), (2, .iload_n 1, 1), (3, .invokevirtual 77, 3), (6, .ifCond .ne 7, 3), (9, .iconst 1, 1), (10, .goto 4, 3), (13, .iconst 0, 1), (14, .iload_n 2, 1), (15, .iconst 0, 1), (16, .bipush 99, 2), (18, .invokestatic 73, 3), (21, .ifCond .ne 7, 3), (24, .iconst 1, 1), (25, .goto 4, 3), (28, .iconst 0, 1), (29, .aload_n 0, 1), (30, .iload_n 1, 1), (31, .invokevirtual 98, 3), (34, .invokevirtual 84, 3), (37, .ifCond .eq 5, 3), (40, .iconst 0, 1), (41, .ireturn, 1), (42, .iconst 0, 1), (43, .istore_n 3, 1), (44, .iconst 0, 1), (45, .istore 4, 2), (47, .iload 4, 2), (49, .aload_n 0, 1), (50, .getfield 92, 3), (53, .if_icmp .ge 40, 3), (56, .iload_n 3, 1), (57, .ifCond .ne 24, 3), (60, .aload_n 0, 1), (61, .getfield 13, 3), (64, .iload 4, 2), (66, .iaload, 1), (67, .ifCond .ne 18, 3), (70, .aload_n 0, 1), (71, .getfield 16, 3), (74, .iload 4, 2), (76, .iaload, 1), (77, .iload_n 2, 1), (78, .if_icmp .ne 7, 3), (81, .iconst 1, 1), (82, .goto 4, 3), (85, .iconst 0, 1), (86, .istore_n 3, 1), (87, .iinc 4 1, 3), (90, .goto (-43), 3), (93, .aload_n 0, 1), (94, .dup, 1), (95, .getfield 121, 3), (98, .iload_n 3, 1), (99, .ifCond .eq 7, 3), (102, .iconst 0, 1), (103, .goto 4, 3), (106, .iconst 1, 1), (107, .iadd, 1), (108, .putfield 121, 3), (111, .aload_n 0, 1), (112, .iconst 0, 1), (113, .iload_n 2, 1), (114, .iload_n 1, 1), (115, .invokevirtual 117, 3), (118, .ireturn, 1)]
theorem d_M_word (i : Nat) {w : Instr × Nat} (e : go_fd t_M_word i = some w) : decode c_M_word i = .ok w := go_fd_ok (tab := t_M_word) (by decide +kernel) e
abbrev c_M_hurt : ByteArray := prog_6_method_19_code
def y_M_hurt : MethodName := ⟨RM, "hurt", "(II)I"⟩
def t_M_hurt : List (Nat × Instr × Nat) := [(0, .aload_n 0, 1), (1, .aload_n 0, 1), (2, .iload_n 1, 1), (3, .invokevirtual 77, 3), (6, .ifCond .ne 7, 3), (9, .iconst 1, 1), (10, .goto 4, 3), (13, .iconst 0, 1), (14, .iload_n 2, 1), (15, .iconst 0, 1), (16, .sipush 10000, 3), (19, .invokestatic 73, 3), (22, .ifCond .ne 7, 3), (25, .iconst 1, 1), (26, .goto 4, 3), (29, .iconst 0, 1), (30, .aload_n 0, 1), (31, .iload_n 1, 1), (32, .invokevirtual 98, 3), (35, .invokevirtual 84, 3), (38, .ifCond .eq 5, 3), (41, .iconst 0, 1), (42, .ireturn, 1), (43, .aload_n 0, 1), (44, .getfield 35, 3), (47, .iload_n 1, 1), (48, .iaload, 1), (49, .istore_n 3, 1), (50, .aload_n 0, 1), (51, .getfield 35, 3), (54, .iload_n 1, 1), (55, .iload_n 2, 1), (56, .iastore, 1), (57, .iconst 0, 1), (58, .istore 4, 2), (60, .iconst 0, 1), (61, .istore 5, 2), (63, .iload 5, 2), (65, .aload_n 0, 1), (66, .getfield 92, 3), (69, .if_icmp .ge 58, 3), (72, .iload 4, 2), (74, .aload_n 0, 1), (75, .getfield 13, 3), (78, .iload 5, 2), (80, .iaload, 1), (81, .iconst 1, 1), (82, .if_icmp .ne 35, 3), (85, .iload_n 3, 1), (86, .aload_n 0, 1), (87, .getfield 16, 3), (90, .iload 5, 2), (92, .iaload, 1), (93, .if_icmp .ge 24, 3), (96, .iload_n 2, 1), (97, .aload_n 0, 1), (98, .getfield 16, 3), (101, .iload 5, 2), (103, .iaload, 1), (104, .if_icmp .lt 13, 3), (107, .aload_n 0, 1), (108, .iload 5, 2), (110, .iload_n 1, 1), (111, .invokevirtual 112, 3), (114, .goto 4, 3), (117, .iconst 0, 1), (118, .iadd, 1), (119, .istore 4, 2), (121, .iinc 5 1, 3), (124, .goto (-61), 3), (127, .iload 4, 2), (129, .ireturn, 1)]
theorem d_M_hurt (i : Nat) {w : Instr × Nat} (e : go_fd t_M_hurt i = some w) : decode c_M_hurt i = .ok w := go_fd_ok (tab := t_M_hurt) (by decide +kernel) e
abbrev c_M_ask : ByteArray := prog_6_method_20_code
def y_M_ask : MethodName := ⟨RM, "ask", "(II)I"⟩
def t_M_ask : List (Nat × Instr × Nat) := [(0, .aload_n 0, 1), (1, .aload_n 0, 1), (2, .iload_n 1, 1), (3, .invokevirtual 77, 3), (6, .ifCond .ne 7, 3), (9, .iconst 1, 1), (10, .goto 4, 3), (13, .iconst 0, 1), (14, .iload_n 2, 1), (15, .iconst 0, 1), (16, .bipush 9, 2), (18, .invokestatic 73, 3), (21, .ifCond .ne 7, 3), (24, .iconst 1, 1), (25, .goto 4, 3), (28, .iconst 0, 1), (29, .aload_n 0, 1), (30, .iload_n 1, 1), (31, .invokevirtual 98, 3), (34, .invokevirtual 84, 3), (37, .ifCond .eq 5, 3), (40, .iconst 0, 1), (41, .ireturn, 1), (42, .aload_n 0, 1), (43, .iconst 3, 1), (44, .iload_n 2, 1), (45, .iload_n 1, 1), (46, .invokevirtual 117, 3), (49, .ireturn, 1)]
theorem d_M_ask (i : Nat) {w : Instr × Nat} (e : go_fd t_M_ask i = some w) : decode c_M_ask i = .ok w := go_fd_ok (tab := t_M_ask) (by decide +kernel) e
abbrev c_M_tell : ByteArray := prog_6_method_21_code
def y_M_tell : MethodName := ⟨RM, "tell", "(I)V"⟩
def t_M_tell : List (Nat × Instr × Nat) := [(0, .aload_n 0, 1), (1, .aload_n 0, 1), (2, .iload_n 1, 1), (3, .invokevirtual 77, 3), (6, .ifCond .ne 7, 3), (9, .iconst 1, 1), (10, .goto 4, 3), (13, .iconst 0, 1), (14, .aload_n 0, 1), (15, .iload_n 1, 1), (16, .invokevirtual 98, 3), (19, .iconst 0, 1), (20, .invokevirtual 84, 3), (23, .ifCond .eq 4, 3), (26, .return_, 1), (27, .aload_n 0, 1), (28, .getfield 38, 3), (31, .iload_n 1, 1), (32, .aload_n 0, 1), (33, .getfield 95, 3), (36, .iastore, 1), (37, .return_, 1)]
theorem d_M_tell (i : Nat) {w : Instr × Nat} (e : go_fd t_M_tell i = some w) : decode c_M_tell i = .ok w := go_fd_ok (tab := t_M_tell) (by decide +kernel) e
abbrev c_M_withSkill : ByteArray := prog_6_method_22_code
def y_M_withSkill : MethodName := ⟨RM, "withSkill", "(II)I"⟩
def t_M_withSkill : List (Nat × Instr × Nat) := [(0, .iconst 0, 1), (1, .istore_n 3, 1), (2, .iconst 0, 1), (3, .istore 4, 2), (5, .iload 4, 2), (7, .aload_n 0, 1), (8, .getfield 81, 3), (11, .if_icmp .ge 38, 3), (14, .iload_n 3, 1), (15, .aload_n 0, 1), (16, .iload 4, 2), (18, .iload_n 1, 1), (19, .invokevirtual 101, 3), (22, .ifCond .eq 18, 3), (25, .aload_n 0, 1), (26, .getfield 53, 3), (29, .iload 4, 2), (31, .iaload, 1), (32, .iload_n 2, 1), (33, .if_icmp .ne 7, 3), (36, .iconst 1, 1), (37, .goto 4, 3), (40, .iconst 0, 1), (41, .iadd, 1), (42, .istore_n 3, 1), (43, .iinc 4 1, 3), (46, .goto (-41), 3), (49, .iload_n 3, 1), (50, .ireturn, 1)]
theorem d_M_withSkill (i : Nat) {w : Instr × Nat} (e : go_fd t_M_withSkill i = some w) : decode c_M_withSkill i = .ok w := go_fd_ok (tab := t_M_withSkill) (by decide +kernel) e
abbrev c_M_goesAhead : ByteArray := prog_6_method_23_code
def y_M_goesAhead : MethodName := ⟨RM, "goesAhead", "(II)Z"⟩
def t_M_goesAhead : List (Nat × Instr × Nat) := [(0, .aload_n 0, 1), (1, .getfield 56, 3), (4, .iload_n 1, 1), (5, .iaload, 1), (6, .aload_n 0, 1), (7, .getfield 56, 3), (10, .iload_n 2, 1), (11, .iaload, 1), (12, .if_icmp .eq 19, 3), (15, .aload_n 0, 1), (16, .getfield 56, 3), (19, .iload_n 1, 1), (20, .iaload, 1), (21, .iconst 1, 1), (22, .if_icmp .ne 7, 3), (25, .iconst 1, 1), (26, .goto 4, 3), (29, .iconst 0, 1), (30, .ireturn, 1), (31, .aload_n 0, 1), (32, .getfield 62, 3), (35, .iload_n 1, 1), (36, .iaload, 1), (37, .aload_n 0, 1), (38, .getfield 62, 3), (41, .iload_n 2, 1), (42, .iaload, 1), (43, .if_icmp .gt 23, 3), (46, .aload_n 0, 1), (47, .getfield 62, 3), (50, .iload_n 1, 1), (51, .iaload, 1), (52, .aload_n 0, 1), (53, .getfield 62, 3), (56, .iload_n 2, 1), (57, .iaload, 1), (58, .if_icmp .ne 12, 3), (61, .iload_n 1, 1), (62, .iload_n 2, 1), (63, .if_icmp .le 7, 3), (66, .iconst 1, 1), (67, .goto 4, 3), (70, .iconst 0, 1), (71, .ireturn, 1)]
theorem d_M_goesAhead (i : Nat) {w : Instr × Nat} (e : go_fd t_M_goesAhead i = some w) : decode c_M_goesAhead i = .ok w := go_fd_ok (tab := t_M_goesAhead) (by decide +kernel) e
abbrev c_M_calm : ByteArray := prog_6_method_24_code
def y_M_calm : MethodName := ⟨RM, "calm", "(II)I"⟩
def t_M_calm : List (Nat × Instr × Nat) := [(0, .aload_n 0, 1), (1, .iload_n 1, 1), (2, .invokevirtual 77, 3), (5, .ifCond .eq 13, 3), (8, .iload_n 2, 1), (9, .iconst 0, 1), (10, .bipush 9, 2), (12, .invokestatic 73, 3), (15, .ifCond .ne 7, 3), (18, .iconst 1, 1), (19, .goto 4, 3), (22, .iconst 0, 1), (23, .istore_n 3, 1), (24, .aload_n 0, 1), (25, .iload_n 3, 1), (26, .iload_n 3, 1), (27, .ifCond .ne 26, 3), (30, .aload_n 0, 1), (31, .getfield 28, 3), (34, .iload_n 1, 1), (35, .baload, 1), (36, .ifCond .eq 13, 3), (39, .aload_n 0, 1), (40, .getfield 32, 3), (43, .iload_n 1, 1), (44, .iaload, 1), (45, .iload_n 2, 1), (46, .if_icmp .gt 7, 3), (49, .iconst 1, 1), (50, .goto 4, 3), (53, .iconst 0, 1), (54, .iconst 0, 1), (55, .invokevirtual 84, 3), (58, .ifCond .eq 5, 3), (61, .iconst 0, 1), (62, .ireturn, 1), (63, .aload_n 0, 1), (64, .getfield 32, 3), (67, .iload_n 1, 1), (68, .iload_n 2, 1), (69, .iastore, 1), (70, .aload_n 0, 1), (71, .getfield 47, 3), (74, .iload_n 1, 1), (75, .dup2, 1), (76, .iaload, 1), (77, .iconst 1, 1), (78, .iadd, 1), (79, .iastore, 1), (80, .iconst 0, 1), (81, .istore 4, 2), (83, .iconst 0, 1), (84, .istore 5, 2), (86, .iload 5, 2), (88, .bipush 8, 2), (90, .if_icmp .ge 106, 3), (93, .aload_n 0, 1), (94, .iload_n 1, 1), (95, .iload 5, 2), (97, .invokevirtual 124, 3), (100, .aload_n 0, 1), (101, .getfield 7, 3), (104, .bipush 8, 2), (106, .iload_n 2, 1), (107, .imul, 1), (108, .iload 5, 2), (110, .iadd, 1), (111, .iaload, 1), (112, .if_icmp .le 78, 3), (115, .iconst (-1), 1), (116, .istore 6, 2), (118, .iconst 0, 1), (119, .istore 7, 2), (121, .iload 7, 2), (123, .aload_n 0, 1), (124, .getfield 81, 3), (127, .if_icmp .ge 51, 3), (130, .aload_n 0, 1), (131, .iload 7, 2), (133, .iload_n 1, 1), (134, .invokevirtual 101, 3), (137, .ifCond .eq 35, 3), (140, .aload_n 0, 1), (141, .getfield 53, 3), (144, .iload 7, 2), (146, .iaload, 1), (147, .iload 5, 2), (149, .if_icmp .ne 23, 3), (152, .iload 6, 2), (154, .ifCond .lt 14, 3), (157, .aload_n 0, 1), (158, .iload 7, 2), (160, .iload 6, 2), (162, .invokevirtual 127, 3), (165, .ifCond .eq 7, 3), (168, .iload 7, 2), (170, .istore 6, 2), (172, .iinc 7 1, 3), (175, .goto (-54), 3), (178, .aload_n 0, 1), (179, .iload 6, 2), (181, .invokevirtual 105, 3), (184, .iinc 4 1, 3), (187, .goto (-94), 3), (190, .iinc 5 1, 3), (193, .goto (-107), 3), (196, .aload_n 0, 1), (197, .dup, 1), (198, .getfield 130, 3), (201, .iload 4, 2), (203, .iadd, 1), (204, .putfield 130, 3), (207, .iload 4, 2), (209, .ireturn, 1)]
theorem d_M_calm (i : Nat) {w : Instr × Nat} (e : go_fd t_M_calm i = some w) : decode c_M_calm i = .ok w := go_fd_ok (tab := t_M_calm) (by decide +kernel) e
abbrev c_M_unit : ByteArray := prog_6_method_25_code
def y_M_unit : MethodName := ⟨RM, "unit", "(I)I"⟩
def t_M_unit : List (Nat × Instr × Nat) := [(0, .aload_n 0, 1), (1, .iload_n 1, 1), (2, .iconst 0, 1), (3, .bipush 7, 2), (5, .invokestatic 73, 3), (8, .ifCond .ne 7, 3), (11, .iconst 1, 1), (12, .goto 4, 3), (15, .iconst 0, 1), (16, .aload_n 0, 1), (17, .getfield 81, 3), (20, .bipush 40, 2), (22, .if_icmp .ne 7, 3), (25, .iconst 1, 1), (26, .goto 4, 3), (29, .iconst 0, 1), (30, .iconst 0, 1), (31, .invokevirtual 84, 3), (34, .ifCond .eq 5, 3), (37, .iconst 0, 1), (38, .ireturn, 1), (39, .aload_n 0, 1), (40, .getfield 53, 3), (43, .aload_n 0, 1), (44, .getfield 81, 3), (47, .iload_n 1, 1), (48, .iastore, 1), (49, .aload_n 0, 1), (50, .aload_n 0, 1), (51, .getfield 81, 3), (54, .invokevirtual 105, 3), (57, .aload_n 0, 1), (58, .dup, 1), (59, .getfield 81, 3), (62, .iconst 1, 1), (63, .iadd, 1), (64, .putfield 81, 3), (67, .aload_n 0, 1), (68, .getfield 81, 3), (71, .iconst 1, 1), (72, .isub, 1), (73, .ireturn, 1)]
theorem d_M_unit (i : Nat) {w : Instr × Nat} (e : go_fd t_M_unit i = some w) : decode c_M_unit i = .ok w := go_fd_ok (tab := t_M_unit) (by decide +kernel) e
abbrev c_M_go : ByteArray := prog_6_method_26_code
def y_M_go : MethodName := ⟨RM, "go", "(III)V"⟩
def t_M_go : List (Nat × Instr × Nat) := [(0, .aload_n 0, 1), (1, .iload_n 1, 1), (2, .invokevirtual 133, 3), (5, .ifCond .eq 11, 3), (8, .aload_n 0, 1), (9, .iload_n 2, 1), (10, .invokevirtual 77, 3), (13, .ifCond .ne 7, 3), (16, .iconst 1, 1), (17, .goto 4, 3), (20, .iconst 0, 1), (21, .istore 4, 2), (23, .aload_n 0, 1), (24, .iload 4, 2), (26, .iload_n 3, 1), (27, .iconst 0, 1), (28, .ldc 136, 2), (30, .invokestatic 73, 3), (33, .ifCond .ne 7, 3), (36, .iconst 1, 1), (37, .goto 4, 3), (40, .iconst 0, 1), (41, .iload 4, 2), (43, .ifCond .ne 25, 3), (46, .aload_n 0, 1), (47, .getfield 56, 3), (50, .iload_n 1, 1), (51, .iaload, 1), (52, .ifCond .ne 12, 3), (55, .aload_n 0, 1), (56, .getfield 28, 3), (59, .iload_n 2, 1), (60, .baload, 1), (61, .ifCond .ne 7, 3), (64, .iconst 1, 1), (65, .goto 4, 3), (68, .iconst 0, 1), (69, .invokevirtual 84, 3), (72, .ifCond .eq 4, 3), (75, .return_, 1), (76, .aload_n 0, 1), (77, .getfield 56, 3), (80, .iload_n 1, 1), (81, .iconst 1, 1), (82, .iastore, 1), (83, .aload_n 0, 1), (84, .getfield 59, 3), (87, .iload_n 1, 1), (88, .iload_n 2, 1), (89, .iastore, 1), (90, .aload_n 0, 1), (91, .getfield 62, 3), (94, .iload_n 1, 1), (95, .iload_n 3, 1), (96, .iastore, 1), (97, .return_, 1)]
theorem d_M_go (i : Nat) {w : Instr × Nat} (e : go_fd t_M_go i = some w) : decode c_M_go i = .ok w := go_fd_ok (tab := t_M_go) (by decide +kernel) e
abbrev c_M_arrive : ByteArray := prog_6_method_27_code
def y_M_arrive : MethodName := ⟨RM, "arrive", "(I)V"⟩
def t_M_arrive : List (Nat × Instr × Nat) := [(0, .aload_n 0, 1), (1, .iload_n 1, 1), (2, .invokevirtual 133, 3), (5, .ifCond .ne 7, 3), (8, .iconst 1, 1), (9, .goto 4, 3), (12, .iconst 0, 1), (13, .istore_n 2, 1), (14, .aload_n 0, 1), (15, .iload_n 2, 1), (16, .iload_n 2, 1), (17, .ifCond .ne 17, 3), (20, .aload_n 0, 1), (21, .getfield 56, 3), (24, .iload_n 1, 1), (25, .iaload, 1), (26, .iconst 1, 1), (27, .if_icmp .eq 7, 3), (30, .iconst 1, 1), (31, .goto 4, 3), (34, .iconst 0, 1), (35, .iconst 0, 1), (36, .invokevirtual 84, 3), (39, .ifCond .eq 4, 3), (42, .return_, 1), (43, .aload_n 0, 1), (44, .getfield 56, 3), (47, .iload_n 1, 1), (48, .iconst 2, 1), (49, .iastore, 1), (50, .return_, 1)]
theorem d_M_arrive (i : Nat) {w : Instr × Nat} (e : go_fd t_M_arrive i = some w) : decode c_M_arrive i = .ok w := go_fd_ok (tab := t_M_arrive) (by decide +kernel) e
abbrev c_M_needed : ByteArray := prog_6_method_28_code
def y_M_needed : MethodName := ⟨RM, "needed", "(II)I"⟩
def t_M_needed : List (Nat × Instr × Nat) := [(0, .aload_n 0, 1), (1, .iload_n 1, 1), (2, .invokevirtual 77, 3), (5, .ifCond .eq 13, 3), (8, .iload_n 2, 1), (9, .iconst 0, 1), (10, .bipush 7, 2), (12, .invokestatic 73, 3), (15, .ifCond .ne 7, 3), (18, .iconst 1, 1), (19, .goto 4, 3), (22, .iconst 0, 1), (23, .istore_n 3, 1), (24, .aload_n 0, 1), (25, .iload_n 3, 1), (26, .iload_n 3, 1), (27, .ifCond .ne 16, 3), (30, .aload_n 0, 1), (31, .getfield 28, 3), (34, .iload_n 1, 1), (35, .baload, 1), (36, .ifCond .ne 7, 3), (39, .iconst 1, 1), (40, .goto 4, 3), (43, .iconst 0, 1), (44, .iconst 0, 1), (45, .invokevirtual 84, 3), (48, .ifCond .eq 5, 3), (51, .iconst 0, 1), (52, .ireturn, 1), (53, .aload_n 0, 1), (54, .getfield 7, 3), (57, .bipush 8, 2), (59, .aload_n 0, 1), (60, .getfield 32, 3), (63, .iload_n 1, 1), (64, .iaload, 1), (65, .imul, 1), (66, .iload_n 2, 1), (67, .iadd, 1), (68, .iaload, 1), (69, .aload_n 0, 1), (70, .iload_n 1, 1), (71, .iload_n 2, 1), (72, .invokevirtual 124, 3), (75, .isub, 1), (76, .ireturn, 1)]
theorem d_M_needed (i : Nat) {w : Instr × Nat} (e : go_fd t_M_needed i = some w) : decode c_M_needed i = .ok w := go_fd_ok (tab := t_M_needed) (by decide +kernel) e
abbrev c_M_incident : ByteArray := prog_6_method_29_code
def y_M_incident : MethodName := ⟨RM, "incident", "(II)I"⟩
def t_M_incident : List (Nat × Instr × Nat) := [(0, .aload_n 0, 1), (1, .aload_n 0, 1), (2, .iload_n 1, 1), (3, .invokevirtual 77, 3), (6, .ifCond .eq 13, 3), (9, .iload_n 2, 1), (10, .iconst 0, 1), (11, .bipush 6, 2), (13, .invokestatic 73, 3), (16, .ifCond .ne 7, 3), (19, .iconst 1, 1), (20, .goto 4, 3), (23, .iconst 0, 1), (24, .iconst 0, 1), (25, .iconst 0, 1), (26, .invokevirtual 84, 3), (29, .ifCond .eq 5, 3), (32, .iconst 0, 1), (33, .ireturn, 1), (34, .iload_n 2, 1), (35, .tableswitch 87 0 5 #[37, 44, 59, 66, 73, 80], 37), (72, .aload_n 0, 1), (73, .getfield 32, 3), (76, .iload_n 1, 1), (77, .iaload, 1), (78, .ireturn, 1), (79, .aload_n 0, 1), (80, .getfield 28, 3), (83, .iload_n 1, 1), (84, .baload, 1), (85, .ifCond .eq 7, 3), (88, .iconst 1, 1), (89, .goto 4, 3), (92, .iconst 0, 1), (93, .ireturn, 1), (94, .aload_n 0, 1), (95, .getfield 35, 3), (98, .iload_n 1, 1), (99, .iaload, 1), (100, .ireturn, 1), (101, .aload_n 0, 1), (102, .getfield 38, 3), (105, .iload_n 1, 1), (106, .iaload, 1), (107, .ireturn, 1), (108, .aload_n 0, 1), (109, .getfield 41, 3), (112, .iload_n 1, 1), (113, .iaload, 1), (114, .ireturn, 1), (115, .aload_n 0, 1), (116, .getfield 44, 3), (119, .iload_n 1, 1), (120, .iaload, 1), (121, .ireturn, 1), (122, .aload_n 0, 1), (123, .getfield 47, 3), (126, .iload_n 1, 1), (127, .iaload, 1), (128, .ireturn, 1)]
theorem d_M_incident (i : Nat) {w : Instr × Nat} (e : go_fd t_M_incident i = some w) : decode c_M_incident i = .ok w := go_fd_ok (tab := t_M_incident) (by decide +kernel) e
abbrev c_M_unitAt : ByteArray := prog_6_method_30_code
def y_M_unitAt : MethodName := ⟨RM, "unitAt", "(II)I"⟩
def t_M_unitAt : List (Nat × Instr × Nat) := [(0, .aload_n 0, 1), (1, .aload_n 0, 1), (2, .iload_n 1, 1), (3, .invokevirtual 133, 3), (6, .ifCond .eq 12, 3), (9, .iload_n 2, 1), (10, .iconst 0, 1), (11, .iconst 2, 1), (12, .invokestatic 73, 3), (15, .ifCond .ne 7, 3), (18, .iconst 1, 1), (19, .goto 4, 3), (22, .iconst 0, 1), (23, .iconst 0, 1), (24, .iconst 0, 1), (25, .invokevirtual 84, 3), (28, .ifCond .eq 5, 3), (31, .iconst 0, 1), (32, .ireturn, 1), (33, .iload_n 2, 1), (34, .ifCond .ne 12, 3), (37, .aload_n 0, 1), (38, .getfield 56, 3), (41, .iload_n 1, 1), (42, .iaload, 1), (43, .goto 23, 3), (46, .iload_n 2, 1), (47, .iconst 1, 1), (48, .if_icmp .ne 12, 3), (51, .aload_n 0, 1), (52, .getfield 59, 3), (55, .iload_n 1, 1), (56, .iaload, 1), (57, .goto 9, 3), (60, .aload_n 0, 1), (61, .getfield 62, 3), (64, .iload_n 1, 1), (65, .iaload, 1), (66, .ireturn, 1)]
theorem d_M_unitAt (i : Nat) {w : Instr × Nat} (e : go_fd t_M_unitAt i = some w) : decode c_M_unitAt i = .ok w := go_fd_ok (tab := t_M_unitAt) (by decide +kernel) e
abbrev c_M_acted : ByteArray := prog_6_method_31_code
def y_M_acted : MethodName := ⟨RM, "acted", "(I)I"⟩
def t_M_acted : List (Nat × Instr × Nat) := [(0, .aload_n 0, 1), (1, .iload_n 1, 1), (2, .iconst 0, 1), (3, .aload_n 0, 1), (4, .getfield 92, 3), (7, .iconst 1, 1), (8, .isub, 1), (9, .invokestatic 73, 3), (12, .ifCond .ne 7, 3), (15, .iconst 1, 1), (16, .goto 4, 3), (19, .iconst 0, 1), (20, .iconst 0, 1), (21, .iconst 0, 1), (22, .invokevirtual 84, 3), (25, .ifCond .eq 5, 3), (28, .iconst 0, 1), (29, .ireturn, 1), (30, .aload_n 0, 1), (31, .getfield 25, 3), (34, .iload_n 1, 1), (35, .iaload, 1), (36, .ireturn, 1)]
theorem d_M_acted (i : Nat) {w : Instr × Nat} (e : go_fd t_M_acted i = some w) : decode c_M_acted i = .ok w := go_fd_ok (tab := t_M_acted) (by decide +kernel) e
abbrev c_M_count : ByteArray := prog_6_method_32_code
def y_M_count : MethodName := ⟨RM, "count", "(I)I"⟩
def t_M_count : List (Nat × Instr × Nat) := [(0, .aload_n 0, 1), (1, .iload_n 1, 1), (2, .iconst 0, 1), (3, .iconst 3, 1), (4, .invokestatic 73, 3), (7, .ifCond .ne 7, 3), (10, .iconst 1, 1), (11, .goto 4, 3), (14, .iconst 0, 1), (15, .iconst 0, 1), (16, .iconst 0, 1), (17, .invokevirtual 84, 3), (20, .ifCond .eq 5, 3), (23, .iconst 0, 1), (24, .ireturn, 1), (25, .iload_n 1, 1), (26, .ifCond .ne 10, 3), (29, .aload_n 0, 1), (30, .getfield 95, 3), (33, .goto 31, 3), (36, .iload_n 1, 1), (37, .iconst 1, 1), (38, .if_icmp .ne 10, 3), (41, .aload_n 0, 1), (42, .getfield 121, 3), (45, .goto 19, 3), (48, .iload_n 1, 1), (49, .iconst 2, 1), (50, .if_icmp .ne 10, 3), (53, .aload_n 0, 1), (54, .getfield 130, 3), (57, .goto 7, 3), (60, .aload_n 0, 1), (61, .getfield 109, 3), (64, .ireturn, 1)]
theorem d_M_count (i : Nat) {w : Instr × Nat} (e : go_fd t_M_count i = some w) : decode c_M_count i = .ok w := go_fd_ok (tab := t_M_count) (by decide +kernel) e
abbrev c_L_row : ByteArray := method_3_code
def y_L_row : MethodName := ⟨RL, "row", "(LSecondWaves;III)I"⟩
def t_L_row : List (Nat × Instr × Nat) := [(0, .aload_n 0, 1), (1, .iload_n 1, 1), (2, .iload_n 2, 1), (3, .iload_n 3, 1), (4, .invokevirtual 7, 3), (7, .goto 11, 3), (10, .astore 4, 2), (12, .iconst 1, 1), (13, .ireturn, 1), (14, .astore 4, 2), (16, .iconst 2, 1), (17, .ireturn, 1), (18, .iconst 0, 1), (19, .ireturn, 1)]
theorem d_L_row (i : Nat) {w : Instr × Nat} (e : go_fd t_L_row i = some w) : decode c_L_row i = .ok w := go_fd_ok (tab := t_L_row) (by decide +kernel) e
abbrev c_L_top : ByteArray := method_4_code
def y_L_top : MethodName := ⟨RL, "top", "(LSecondWaves;I)I"⟩
def t_L_top : List (Nat × Instr × Nat) := [(0, .aload_n 0, 1), (1, .iload_n 1, 1), (2, .invokevirtual 17, 3), (5, .goto 9, 3), (8, .astore_n 2, 1), (9, .iconst 1, 1), (10, .ireturn, 1), (11, .astore_n 2, 1), (12, .iconst 2, 1), (13, .ireturn, 1), (14, .iconst 0, 1), (15, .ireturn, 1)]
theorem d_L_top (i : Nat) {w : Instr × Nat} (e : go_fd t_L_top i = some w) : decode c_L_top i = .ok w := go_fd_ok (tab := t_L_top) (by decide +kernel) e
abbrev c_L_trigger : ByteArray := method_5_code
def y_L_trigger : MethodName := ⟨RL, "trigger", "(LSecondWaves;IIII[J)I"⟩
def t_L_trigger : List (Nat × Instr × Nat) := [(0, .aload 5, 2), (2, .iconst 0, 1), (3, .aload_n 0, 1), (4, .iload_n 1, 1), (5, .iload_n 2, 1), (6, .iload_n 3, 1), (7, .iload 4, 2), (9, .invokevirtual 23, 3), (12, .i2l, 1), (13, .lastore, 1), (14, .goto 15, 3), (17, .astore 6, 2), (19, .iconst 1, 1), (20, .ireturn, 1), (21, .astore 6, 2), (23, .iconst 2, 1), (24, .ireturn, 1), (25, .astore 6, 2), (27, .iconst 3, 1), (28, .ireturn, 1), (29, .iconst 0, 1), (30, .ireturn, 1)]
theorem d_L_trigger (i : Nat) {w : Instr × Nat} (e : go_fd t_L_trigger i = some w) : decode c_L_trigger i = .ok w := go_fd_ok (tab := t_L_trigger) (by decide +kernel) e
abbrev c_L_begin : ByteArray := method_6_code
def y_L_begin : MethodName := ⟨RL, "begin", "(LSecondWaves;[J)I"⟩
def t_L_begin : List (Nat × Instr × Nat) := [(0, .aload_n 1, 1), (1, .iconst 0, 1), (2, .aload_n 0, 1), (3, .invokevirtual 29, 3), (6, .i2l, 1), (7, .lastore, 1), (8, .goto 6, 3), (11, .astore_n 2, 1), (12, .iconst 1, 1), (13, .ireturn, 1), (14, .iconst 0, 1), (15, .ireturn, 1)]
theorem d_L_begin (i : Nat) {w : Instr × Nat} (e : go_fd t_L_begin i = some w) : decode c_L_begin i = .ok w := go_fd_ok (tab := t_L_begin) (by decide +kernel) e
abbrev c_L_close : ByteArray := method_7_code
def y_L_close : MethodName := ⟨RL, "close", "(LSecondWaves;I)I"⟩
def t_L_close : List (Nat × Instr × Nat) := [(0, .aload_n 0, 1), (1, .iload_n 1, 1), (2, .invokevirtual 33, 3), (5, .goto 9, 3), (8, .astore_n 2, 1), (9, .iconst 1, 1), (10, .ireturn, 1), (11, .astore_n 2, 1), (12, .iconst 2, 1), (13, .ireturn, 1), (14, .iconst 0, 1), (15, .ireturn, 1)]
theorem d_L_close (i : Nat) {w : Instr × Nat} (e : go_fd t_L_close i = some w) : decode c_L_close i = .ok w := go_fd_ok (tab := t_L_close) (by decide +kernel) e
abbrev c_L_tick : ByteArray := method_8_code
def y_L_tick : MethodName := ⟨RL, "tick", "(LSecondWaves;I[J)I"⟩
def t_L_tick : List (Nat × Instr × Nat) := [(0, .aload_n 2, 1), (1, .iconst 0, 1), (2, .aload_n 0, 1), (3, .iload_n 1, 1), (4, .invokevirtual 36, 3), (7, .i2l, 1), (8, .lastore, 1), (9, .goto 6, 3), (12, .astore_n 3, 1), (13, .iconst 1, 1), (14, .ireturn, 1), (15, .iconst 0, 1), (16, .ireturn, 1)]
theorem d_L_tick (i : Nat) {w : Instr × Nat} (e : go_fd t_L_tick i = some w) : decode c_L_tick i = .ok w := go_fd_ok (tab := t_L_tick) (by decide +kernel) e
abbrev c_L_word : ByteArray := method_9_code
def y_L_word : MethodName := ⟨RL, "word", "(LSecondWaves;II[J)I"⟩
def t_L_word : List (Nat × Instr × Nat) := [(0, .aload_n 3, 1), (1, .iconst 0, 1), (2, .aload_n 0, 1), (3, .iload_n 1, 1), (4, .iload_n 2, 1), (5, .invokevirtual 40, 3), (8, .i2l, 1), (9, .lastore, 1), (10, .goto 15, 3), (13, .astore 4, 2), (15, .iconst 1, 1), (16, .ireturn, 1), (17, .astore 4, 2), (19, .iconst 2, 1), (20, .ireturn, 1), (21, .astore 4, 2), (23, .iconst 3, 1), (24, .ireturn, 1), (25, .iconst 0, 1), (26, .ireturn, 1)]
theorem d_L_word (i : Nat) {w : Instr × Nat} (e : go_fd t_L_word i = some w) : decode c_L_word i = .ok w := go_fd_ok (tab := t_L_word) (by decide +kernel) e
abbrev c_L_hurt : ByteArray := method_10_code
def y_L_hurt : MethodName := ⟨RL, "hurt", "(LSecondWaves;II[J)I"⟩
def t_L_hurt : List (Nat × Instr × Nat) := [(0, .aload_n 3, 1), (1, .iconst 0, 1), (2, .aload_n 0, 1), (3, .iload_n 1, 1), (4, .iload_n 2, 1), (5, .invokevirtual 44, 3), (8, .i2l, 1), (9, .lastore, 1), (10, .goto 15, 3), (13, .astore 4, 2), (15, .iconst 1, 1), (16, .ireturn, 1), (17, .astore 4, 2), (19, .iconst 2, 1), (20, .ireturn, 1), (21, .astore 4, 2), (23, .iconst 3, 1), (24, .ireturn, 1), (25, .iconst 0, 1), (26, .ireturn, 1)]
theorem d_L_hurt (i : Nat) {w : Instr × Nat} (e : go_fd t_L_hurt i = some w) : decode c_L_hurt i = .ok w := go_fd_ok (tab := t_L_hurt) (by decide +kernel) e
abbrev c_L_ask : ByteArray := method_11_code
def y_L_ask : MethodName := ⟨RL, "ask", "(LSecondWaves;II[J)I"⟩
def t_L_ask : List (Nat × Instr × Nat) := [(0, .aload_n 3, 1), (1, .iconst 0, 1), (2, .aload_n 0, 1), (3, .iload_n 1, 1), (4, .iload_n 2, 1), (5, .invokevirtual 47, 3), (8, .i2l, 1), (9, .lastore, 1), (10, .goto 15, 3), (13, .astore 4, 2), (15, .iconst 1, 1), (16, .ireturn, 1), (17, .astore 4, 2), (19, .iconst 2, 1), (20, .ireturn, 1), (21, .astore 4, 2), (23, .iconst 3, 1), (24, .ireturn, 1), (25, .iconst 0, 1), (26, .ireturn, 1)]
theorem d_L_ask (i : Nat) {w : Instr × Nat} (e : go_fd t_L_ask i = some w) : decode c_L_ask i = .ok w := go_fd_ok (tab := t_L_ask) (by decide +kernel) e
abbrev c_L_tell : ByteArray := method_12_code
def y_L_tell : MethodName := ⟨RL, "tell", "(LSecondWaves;I)I"⟩
def t_L_tell : List (Nat × Instr × Nat) := [(0, .aload_n 0, 1), (1, .iload_n 1, 1), (2, .invokevirtual 50, 3), (5, .goto 9, 3), (8, .astore_n 2, 1), (9, .iconst 1, 1), (10, .ireturn, 1), (11, .astore_n 2, 1), (12, .iconst 2, 1), (13, .ireturn, 1), (14, .iconst 0, 1), (15, .ireturn, 1)]
theorem d_L_tell (i : Nat) {w : Instr × Nat} (e : go_fd t_L_tell i = some w) : decode c_L_tell i = .ok w := go_fd_ok (tab := t_L_tell) (by decide +kernel) e
abbrev c_L_calm : ByteArray := method_13_code
def y_L_calm : MethodName := ⟨RL, "calm", "(LSecondWaves;II[J)I"⟩
def t_L_calm : List (Nat × Instr × Nat) := [(0, .aload_n 3, 1), (1, .iconst 0, 1), (2, .aload_n 0, 1), (3, .iload_n 1, 1), (4, .iload_n 2, 1), (5, .invokevirtual 53, 3), (8, .i2l, 1), (9, .lastore, 1), (10, .goto 11, 3), (13, .astore 4, 2), (15, .iconst 1, 1), (16, .ireturn, 1), (17, .astore 4, 2), (19, .iconst 2, 1), (20, .ireturn, 1), (21, .iconst 0, 1), (22, .ireturn, 1)]
theorem d_L_calm (i : Nat) {w : Instr × Nat} (e : go_fd t_L_calm i = some w) : decode c_L_calm i = .ok w := go_fd_ok (tab := t_L_calm) (by decide +kernel) e
abbrev c_L_unit : ByteArray := method_14_code
def y_L_unit : MethodName := ⟨RL, "unit", "(LSecondWaves;I[J)I"⟩
def t_L_unit : List (Nat × Instr × Nat) := [(0, .aload_n 2, 1), (1, .iconst 0, 1), (2, .aload_n 0, 1), (3, .iload_n 1, 1), (4, .invokevirtual 56, 3), (7, .i2l, 1), (8, .lastore, 1), (9, .goto 9, 3), (12, .astore_n 3, 1), (13, .iconst 1, 1), (14, .ireturn, 1), (15, .astore_n 3, 1), (16, .iconst 2, 1), (17, .ireturn, 1), (18, .iconst 0, 1), (19, .ireturn, 1)]
theorem d_L_unit (i : Nat) {w : Instr × Nat} (e : go_fd t_L_unit i = some w) : decode c_L_unit i = .ok w := go_fd_ok (tab := t_L_unit) (by decide +kernel) e
abbrev c_L_go : ByteArray := method_15_code
def y_L_go : MethodName := ⟨RL, "go", "(LSecondWaves;III)I"⟩
def t_L_go : List (Nat × Instr × Nat) := [(0, .aload_n 0, 1), (1, .iload_n 1, 1), (2, .iload_n 2, 1), (3, .iload_n 3, 1), (4, .invokevirtual 59, 3), (7, .goto 15, 3), (10, .astore 4, 2), (12, .iconst 1, 1), (13, .ireturn, 1), (14, .astore 4, 2), (16, .iconst 2, 1), (17, .ireturn, 1), (18, .astore 4, 2), (20, .iconst 3, 1), (21, .ireturn, 1), (22, .iconst 0, 1), (23, .ireturn, 1)]
theorem d_L_go (i : Nat) {w : Instr × Nat} (e : go_fd t_L_go i = some w) : decode c_L_go i = .ok w := go_fd_ok (tab := t_L_go) (by decide +kernel) e
abbrev c_L_arrive : ByteArray := method_16_code
def y_L_arrive : MethodName := ⟨RL, "arrive", "(LSecondWaves;I)I"⟩
def t_L_arrive : List (Nat × Instr × Nat) := [(0, .aload_n 0, 1), (1, .iload_n 1, 1), (2, .invokevirtual 62, 3), (5, .goto 9, 3), (8, .astore_n 2, 1), (9, .iconst 1, 1), (10, .ireturn, 1), (11, .astore_n 2, 1), (12, .iconst 2, 1), (13, .ireturn, 1), (14, .iconst 0, 1), (15, .ireturn, 1)]
theorem d_L_arrive (i : Nat) {w : Instr × Nat} (e : go_fd t_L_arrive i = some w) : decode c_L_arrive i = .ok w := go_fd_ok (tab := t_L_arrive) (by decide +kernel) e
abbrev c_L_needed : ByteArray := method_17_code
def y_L_needed : MethodName := ⟨RL, "needed", "(LSecondWaves;II[J)I"⟩
def t_L_needed : List (Nat × Instr × Nat) := [(0, .aload_n 3, 1), (1, .iconst 0, 1), (2, .aload_n 0, 1), (3, .iload_n 1, 1), (4, .iload_n 2, 1), (5, .invokevirtual 65, 3), (8, .i2l, 1), (9, .lastore, 1), (10, .goto 11, 3), (13, .astore 4, 2), (15, .iconst 1, 1), (16, .ireturn, 1), (17, .astore 4, 2), (19, .iconst 2, 1), (20, .ireturn, 1), (21, .iconst 0, 1), (22, .ireturn, 1)]
theorem d_L_needed (i : Nat) {w : Instr × Nat} (e : go_fd t_L_needed i = some w) : decode c_L_needed i = .ok w := go_fd_ok (tab := t_L_needed) (by decide +kernel) e
abbrev c_L_incident : ByteArray := method_18_code
def y_L_incident : MethodName := ⟨RL, "incident", "(LSecondWaves;II[J)I"⟩
def t_L_incident : List (Nat × Instr × Nat) := [(0, .aload_n 3, 1), (1, .iconst 0, 1), (2, .aload_n 0, 1), (3, .iload_n 1, 1), (4, .iload_n 2, 1), (5, .invokevirtual 68, 3), (8, .i2l, 1), (9, .lastore, 1), (10, .goto 7, 3), (13, .astore 4, 2), (15, .iconst 1, 1), (16, .ireturn, 1), (17, .iconst 0, 1), (18, .ireturn, 1)]
theorem d_L_incident (i : Nat) {w : Instr × Nat} (e : go_fd t_L_incident i = some w) : decode c_L_incident i = .ok w := go_fd_ok (tab := t_L_incident) (by decide +kernel) e
abbrev c_L_unitAt : ByteArray := method_19_code
def y_L_unitAt : MethodName := ⟨RL, "unitAt", "(LSecondWaves;II[J)I"⟩
def t_L_unitAt : List (Nat × Instr × Nat) := [(0, .aload_n 3, 1), (1, .iconst 0, 1), (2, .aload_n 0, 1), (3, .iload_n 1, 1), (4, .iload_n 2, 1), (5, .invokevirtual 71, 3), (8, .i2l, 1), (9, .lastore, 1), (10, .goto 7, 3), (13, .astore 4, 2), (15, .iconst 1, 1), (16, .ireturn, 1), (17, .iconst 0, 1), (18, .ireturn, 1)]
theorem d_L_unitAt (i : Nat) {w : Instr × Nat} (e : go_fd t_L_unitAt i = some w) : decode c_L_unitAt i = .ok w := go_fd_ok (tab := t_L_unitAt) (by decide +kernel) e
abbrev c_L_acted : ByteArray := method_20_code
def y_L_acted : MethodName := ⟨RL, "acted", "(LSecondWaves;I[J)I"⟩
def t_L_acted : List (Nat × Instr × Nat) := [(0, .aload_n 2, 1), (1, .iconst 0, 1), (2, .aload_n 0, 1), (3, .iload_n 1, 1), (4, .invokevirtual 74, 3), (7, .i2l, 1), (8, .lastore, 1), (9, .goto 6, 3), (12, .astore_n 3, 1), (13, .iconst 1, 1), (14, .ireturn, 1), (15, .iconst 0, 1), (16, .ireturn, 1)]
theorem d_L_acted (i : Nat) {w : Instr × Nat} (e : go_fd t_L_acted i = some w) : decode c_L_acted i = .ok w := go_fd_ok (tab := t_L_acted) (by decide +kernel) e
abbrev c_L_count : ByteArray := method_21_code
def y_L_count : MethodName := ⟨RL, "count", "(LSecondWaves;I[J)I"⟩
def t_L_count : List (Nat × Instr × Nat) := [(0, .aload_n 2, 1), (1, .iconst 0, 1), (2, .aload_n 0, 1), (3, .iload_n 1, 1), (4, .invokevirtual 77, 3), (7, .i2l, 1), (8, .lastore, 1), (9, .goto 6, 3), (12, .astore_n 3, 1), (13, .iconst 1, 1), (14, .ireturn, 1), (15, .iconst 0, 1), (16, .ireturn, 1)]
theorem d_L_count (i : Nat) {w : Instr × Nat} (e : go_fd t_L_count i = some w) : decode c_L_count i = .ok w := go_fd_ok (tab := t_L_count) (by decide +kernel) e
abbrev c_L_law : ByteArray := code
def y_L_law : MethodName := ⟨RL, "law", "([I)Z"⟩
end
section
def t_L_law_0 : List (Nat × Instr × Nat) := [(0, .new 8, 3), (3, .dup, 1), (4, .invokespecial 80, 3), (7, .astore_n 1, 1), (8, .new 81, 3), (11, .dup, 1), (12, .invokespecial 83, 3), (15, .astore_n 2, 1), (16, .iconst 1, 1), (17, .newarray .long, 2), (19, .astore_n 3, 1), (20, .iconst 0, 1), (21, .istore 4, 2), (23, .iload 4, 2), (25, .aload_n 0, 1), (26, .arraylength, 1), (27, .iconst 5, 1), (28, .isub, 1), (29, .if_icmp .gt 1205, 3), (32, .aload_n 0, 1), (33, .iload 4, 2), (35, .iaload, 1), (36, .bipush 31, 2), (38, .iand, 1), (39, .tableswitch 1189 0 18 #[89, 149, 185, 277, 321, 357, 413, 481, 549, 617, 653, 721, 777, 837, 873, 941, 1009, 1077, 1133], 89), (128, .aload_n 1, 1), (129, .aload_n 0, 1), (130, .iload 4, 2), (132, .iconst 1, 1), (133, .iadd, 1)]
theorem d_L_law_0 (i : Nat) {w : Instr × Nat} (e : go_fd t_L_law_0 i = some w) : decode c_L_law i = .ok w := go_fd_ok (tab := t_L_law_0) (by decide +kernel) e
def t_L_law_1 : List (Nat × Instr × Nat) := [(134, .iaload, 1), (135, .aload_n 0, 1), (136, .iload 4, 2), (138, .iconst 2, 1), (139, .iadd, 1), (140, .iaload, 1), (141, .aload_n 0, 1), (142, .iload 4, 2), (144, .iconst 3, 1), (145, .iadd, 1), (146, .iaload, 1), (147, .invokestatic 84, 3), (150, .istore 5, 2), (152, .aload_n 2, 1), (153, .aload_n 0, 1), (154, .iload 4, 2), (156, .iconst 1, 1), (157, .iadd, 1), (158, .iaload, 1), (159, .aload_n 0, 1), (160, .iload 4, 2), (162, .iconst 2, 1), (163, .iadd, 1), (164, .iaload, 1), (165, .aload_n 0, 1), (166, .iload 4, 2), (168, .iconst 3, 1), (169, .iadd, 1), (170, .iaload, 1), (171, .invokevirtual 89, 3)]
theorem d_L_law_1 (i : Nat) {w : Instr × Nat} (e : go_fd t_L_law_1 i = some w) : decode c_L_law i = .ok w := go_fd_ok (tab := t_L_law_1) (by decide +kernel) e
def t_L_law_2 : List (Nat × Instr × Nat) := [(174, .aload_n 2, 1), (175, .invokevirtual 90, 3), (178, .iload 5, 2), (180, .if_icmp .eq 5, 3), (183, .iconst 0, 1), (184, .ireturn, 1), (185, .goto 1043, 3), (188, .aload_n 1, 1), (189, .aload_n 0, 1), (190, .iload 4, 2), (192, .iconst 1, 1), (193, .iadd, 1), (194, .iaload, 1), (195, .invokestatic 93, 3), (198, .istore 5, 2), (200, .aload_n 2, 1), (201, .aload_n 0, 1), (202, .iload 4, 2), (204, .iconst 1, 1), (205, .iadd, 1), (206, .iaload, 1), (207, .invokevirtual 96, 3), (210, .aload_n 2, 1), (211, .invokevirtual 90, 3), (214, .iload 5, 2), (216, .if_icmp .eq 5, 3), (219, .iconst 0, 1), (220, .ireturn, 1), (221, .goto 1007, 3), (224, .aload_n 1, 1)]
theorem d_L_law_2 (i : Nat) {w : Instr × Nat} (e : go_fd t_L_law_2 i = some w) : decode c_L_law i = .ok w := go_fd_ok (tab := t_L_law_2) (by decide +kernel) e
def t_L_law_3 : List (Nat × Instr × Nat) := [(225, .aload_n 0, 1), (226, .iload 4, 2), (228, .iconst 1, 1), (229, .iadd, 1), (230, .iaload, 1), (231, .aload_n 0, 1), (232, .iload 4, 2), (234, .iconst 2, 1), (235, .iadd, 1), (236, .iaload, 1), (237, .aload_n 0, 1), (238, .iload 4, 2), (240, .iconst 3, 1), (241, .iadd, 1), (242, .iaload, 1), (243, .aload_n 0, 1), (244, .iload 4, 2), (246, .iconst 4, 1), (247, .iadd, 1), (248, .iaload, 1), (249, .aload_n 3, 1), (250, .invokestatic 97, 3), (253, .istore 5, 2), (255, .aload_n 2, 1), (256, .aload_n 0, 1), (257, .iload 4, 2), (259, .iconst 1, 1), (260, .iadd, 1), (261, .iaload, 1), (262, .aload_n 0, 1)]
theorem d_L_law_3 (i : Nat) {w : Instr × Nat} (e : go_fd t_L_law_3 i = some w) : decode c_L_law i = .ok w := go_fd_ok (tab := t_L_law_3) (by decide +kernel) e
def t_L_law_4 : List (Nat × Instr × Nat) := [(263, .iload 4, 2), (265, .iconst 2, 1), (266, .iadd, 1), (267, .iaload, 1), (268, .aload_n 0, 1), (269, .iload 4, 2), (271, .iconst 3, 1), (272, .iadd, 1), (273, .iaload, 1), (274, .aload_n 0, 1), (275, .iload 4, 2), (277, .iconst 4, 1), (278, .iadd, 1), (279, .iaload, 1), (280, .invokevirtual 100, 3), (283, .istore 6, 2), (285, .aload_n 2, 1), (286, .invokevirtual 90, 3), (289, .iload 5, 2), (291, .if_icmp .eq 5, 3), (294, .iconst 0, 1), (295, .ireturn, 1), (296, .iload 5, 2), (298, .ifCond .ne 15, 3), (301, .aload_n 3, 1), (302, .iconst 0, 1), (303, .laload, 1), (304, .iload 6, 2), (306, .i2l, 1), (307, .lcmp, 1)]
theorem d_L_law_4 (i : Nat) {w : Instr × Nat} (e : go_fd t_L_law_4 i = some w) : decode c_L_law i = .ok w := go_fd_ok (tab := t_L_law_4) (by decide +kernel) e
def t_L_law_5 : List (Nat × Instr × Nat) := [(308, .ifCond .eq 5, 3), (311, .iconst 0, 1), (312, .ireturn, 1), (313, .goto 915, 3), (316, .aload_n 1, 1), (317, .aload_n 3, 1), (318, .invokestatic 101, 3), (321, .istore 5, 2), (323, .aload_n 2, 1), (324, .invokevirtual 104, 3), (327, .istore 6, 2), (329, .aload_n 2, 1), (330, .invokevirtual 90, 3), (333, .iload 5, 2), (335, .if_icmp .eq 5, 3), (338, .iconst 0, 1), (339, .ireturn, 1), (340, .iload 5, 2), (342, .ifCond .ne 15, 3), (345, .aload_n 3, 1), (346, .iconst 0, 1), (347, .laload, 1), (348, .iload 6, 2), (350, .i2l, 1), (351, .lcmp, 1), (352, .ifCond .eq 5, 3), (355, .iconst 0, 1), (356, .ireturn, 1), (357, .goto 871, 3), (360, .aload_n 1, 1)]
theorem d_L_law_5 (i : Nat) {w : Instr × Nat} (e : go_fd t_L_law_5 i = some w) : decode c_L_law i = .ok w := go_fd_ok (tab := t_L_law_5) (by decide +kernel) e
def t_L_law_6 : List (Nat × Instr × Nat) := [(361, .aload_n 0, 1), (362, .iload 4, 2), (364, .iconst 1, 1), (365, .iadd, 1), (366, .iaload, 1), (367, .invokestatic 105, 3), (370, .istore 5, 2), (372, .aload_n 2, 1), (373, .aload_n 0, 1), (374, .iload 4, 2), (376, .iconst 1, 1), (377, .iadd, 1), (378, .iaload, 1), (379, .invokevirtual 107, 3), (382, .aload_n 2, 1), (383, .invokevirtual 90, 3), (386, .iload 5, 2), (388, .if_icmp .eq 5, 3), (391, .iconst 0, 1), (392, .ireturn, 1), (393, .goto 835, 3), (396, .aload_n 1, 1), (397, .aload_n 0, 1), (398, .iload 4, 2), (400, .iconst 1, 1), (401, .iadd, 1), (402, .iaload, 1), (403, .aload_n 3, 1), (404, .invokestatic 108, 3), (407, .istore 5, 2)]
theorem d_L_law_6 (i : Nat) {w : Instr × Nat} (e : go_fd t_L_law_6 i = some w) : decode c_L_law i = .ok w := go_fd_ok (tab := t_L_law_6) (by decide +kernel) e
def t_L_law_7 : List (Nat × Instr × Nat) := [(409, .aload_n 2, 1), (410, .aload_n 0, 1), (411, .iload 4, 2), (413, .iconst 1, 1), (414, .iadd, 1), (415, .iaload, 1), (416, .invokevirtual 111, 3), (419, .istore 6, 2), (421, .aload_n 2, 1), (422, .invokevirtual 90, 3), (425, .iload 5, 2), (427, .if_icmp .eq 5, 3), (430, .iconst 0, 1), (431, .ireturn, 1), (432, .iload 5, 2), (434, .ifCond .ne 15, 3), (437, .aload_n 3, 1), (438, .iconst 0, 1), (439, .laload, 1), (440, .iload 6, 2), (442, .i2l, 1), (443, .lcmp, 1), (444, .ifCond .eq 5, 3), (447, .iconst 0, 1), (448, .ireturn, 1), (449, .goto 779, 3), (452, .aload_n 1, 1), (453, .aload_n 0, 1), (454, .iload 4, 2), (456, .iconst 1, 1)]
theorem d_L_law_7 (i : Nat) {w : Instr × Nat} (e : go_fd t_L_law_7 i = some w) : decode c_L_law i = .ok w := go_fd_ok (tab := t_L_law_7) (by decide +kernel) e
def t_L_law_8 : List (Nat × Instr × Nat) := [(457, .iadd, 1), (458, .iaload, 1), (459, .aload_n 0, 1), (460, .iload 4, 2), (462, .iconst 2, 1), (463, .iadd, 1), (464, .iaload, 1), (465, .aload_n 3, 1), (466, .invokestatic 112, 3), (469, .istore 5, 2), (471, .aload_n 2, 1), (472, .aload_n 0, 1), (473, .iload 4, 2), (475, .iconst 1, 1), (476, .iadd, 1), (477, .iaload, 1), (478, .aload_n 0, 1), (479, .iload 4, 2), (481, .iconst 2, 1), (482, .iadd, 1), (483, .iaload, 1), (484, .invokevirtual 115, 3), (487, .istore 6, 2), (489, .aload_n 2, 1), (490, .invokevirtual 90, 3), (493, .iload 5, 2), (495, .if_icmp .eq 5, 3), (498, .iconst 0, 1), (499, .ireturn, 1), (500, .iload 5, 2)]
theorem d_L_law_8 (i : Nat) {w : Instr × Nat} (e : go_fd t_L_law_8 i = some w) : decode c_L_law i = .ok w := go_fd_ok (tab := t_L_law_8) (by decide +kernel) e
def t_L_law_9 : List (Nat × Instr × Nat) := [(502, .ifCond .ne 15, 3), (505, .aload_n 3, 1), (506, .iconst 0, 1), (507, .laload, 1), (508, .iload 6, 2), (510, .i2l, 1), (511, .lcmp, 1), (512, .ifCond .eq 5, 3), (515, .iconst 0, 1), (516, .ireturn, 1), (517, .goto 711, 3), (520, .aload_n 1, 1), (521, .aload_n 0, 1), (522, .iload 4, 2), (524, .iconst 1, 1), (525, .iadd, 1), (526, .iaload, 1), (527, .aload_n 0, 1), (528, .iload 4, 2), (530, .iconst 2, 1), (531, .iadd, 1), (532, .iaload, 1), (533, .aload_n 3, 1), (534, .invokestatic 116, 3), (537, .istore 5, 2), (539, .aload_n 2, 1), (540, .aload_n 0, 1), (541, .iload 4, 2), (543, .iconst 1, 1), (544, .iadd, 1)]
theorem d_L_law_9 (i : Nat) {w : Instr × Nat} (e : go_fd t_L_law_9 i = some w) : decode c_L_law i = .ok w := go_fd_ok (tab := t_L_law_9) (by decide +kernel) e
def t_L_law_10 : List (Nat × Instr × Nat) := [(545, .iaload, 1), (546, .aload_n 0, 1), (547, .iload 4, 2), (549, .iconst 2, 1), (550, .iadd, 1), (551, .iaload, 1), (552, .invokevirtual 118, 3), (555, .istore 6, 2), (557, .aload_n 2, 1), (558, .invokevirtual 90, 3), (561, .iload 5, 2), (563, .if_icmp .eq 5, 3), (566, .iconst 0, 1), (567, .ireturn, 1), (568, .iload 5, 2), (570, .ifCond .ne 15, 3), (573, .aload_n 3, 1), (574, .iconst 0, 1), (575, .laload, 1), (576, .iload 6, 2), (578, .i2l, 1), (579, .lcmp, 1), (580, .ifCond .eq 5, 3), (583, .iconst 0, 1), (584, .ireturn, 1), (585, .goto 643, 3), (588, .aload_n 1, 1), (589, .aload_n 0, 1), (590, .iload 4, 2), (592, .iconst 1, 1)]
theorem d_L_law_10 (i : Nat) {w : Instr × Nat} (e : go_fd t_L_law_10 i = some w) : decode c_L_law i = .ok w := go_fd_ok (tab := t_L_law_10) (by decide +kernel) e
def t_L_law_11 : List (Nat × Instr × Nat) := [(593, .iadd, 1), (594, .iaload, 1), (595, .aload_n 0, 1), (596, .iload 4, 2), (598, .iconst 2, 1), (599, .iadd, 1), (600, .iaload, 1), (601, .aload_n 3, 1), (602, .invokestatic 119, 3), (605, .istore 5, 2), (607, .aload_n 2, 1), (608, .aload_n 0, 1), (609, .iload 4, 2), (611, .iconst 1, 1), (612, .iadd, 1), (613, .iaload, 1), (614, .aload_n 0, 1), (615, .iload 4, 2), (617, .iconst 2, 1), (618, .iadd, 1), (619, .iaload, 1), (620, .invokevirtual 121, 3), (623, .istore 6, 2), (625, .aload_n 2, 1), (626, .invokevirtual 90, 3), (629, .iload 5, 2), (631, .if_icmp .eq 5, 3), (634, .iconst 0, 1), (635, .ireturn, 1), (636, .iload 5, 2)]
theorem d_L_law_11 (i : Nat) {w : Instr × Nat} (e : go_fd t_L_law_11 i = some w) : decode c_L_law i = .ok w := go_fd_ok (tab := t_L_law_11) (by decide +kernel) e
def t_L_law_12 : List (Nat × Instr × Nat) := [(638, .ifCond .ne 15, 3), (641, .aload_n 3, 1), (642, .iconst 0, 1), (643, .laload, 1), (644, .iload 6, 2), (646, .i2l, 1), (647, .lcmp, 1), (648, .ifCond .eq 5, 3), (651, .iconst 0, 1), (652, .ireturn, 1), (653, .goto 575, 3), (656, .aload_n 1, 1), (657, .aload_n 0, 1), (658, .iload 4, 2), (660, .iconst 1, 1), (661, .iadd, 1), (662, .iaload, 1), (663, .invokestatic 122, 3), (666, .istore 5, 2), (668, .aload_n 2, 1), (669, .aload_n 0, 1), (670, .iload 4, 2), (672, .iconst 1, 1), (673, .iadd, 1), (674, .iaload, 1), (675, .invokevirtual 124, 3), (678, .aload_n 2, 1), (679, .invokevirtual 90, 3), (682, .iload 5, 2), (684, .if_icmp .eq 5, 3)]
theorem d_L_law_12 (i : Nat) {w : Instr × Nat} (e : go_fd t_L_law_12 i = some w) : decode c_L_law i = .ok w := go_fd_ok (tab := t_L_law_12) (by decide +kernel) e
def t_L_law_13 : List (Nat × Instr × Nat) := [(687, .iconst 0, 1), (688, .ireturn, 1), (689, .goto 539, 3), (692, .aload_n 1, 1), (693, .aload_n 0, 1), (694, .iload 4, 2), (696, .iconst 1, 1), (697, .iadd, 1), (698, .iaload, 1), (699, .aload_n 0, 1), (700, .iload 4, 2), (702, .iconst 2, 1), (703, .iadd, 1), (704, .iaload, 1), (705, .aload_n 3, 1), (706, .invokestatic 125, 3), (709, .istore 5, 2), (711, .aload_n 2, 1), (712, .aload_n 0, 1), (713, .iload 4, 2), (715, .iconst 1, 1), (716, .iadd, 1), (717, .iaload, 1), (718, .aload_n 0, 1), (719, .iload 4, 2), (721, .iconst 2, 1), (722, .iadd, 1), (723, .iaload, 1), (724, .invokevirtual 127, 3), (727, .istore 6, 2)]
theorem d_L_law_13 (i : Nat) {w : Instr × Nat} (e : go_fd t_L_law_13 i = some w) : decode c_L_law i = .ok w := go_fd_ok (tab := t_L_law_13) (by decide +kernel) e
def t_L_law_14 : List (Nat × Instr × Nat) := [(729, .aload_n 2, 1), (730, .invokevirtual 90, 3), (733, .iload 5, 2), (735, .if_icmp .eq 5, 3), (738, .iconst 0, 1), (739, .ireturn, 1), (740, .iload 5, 2), (742, .ifCond .ne 15, 3), (745, .aload_n 3, 1), (746, .iconst 0, 1), (747, .laload, 1), (748, .iload 6, 2), (750, .i2l, 1), (751, .lcmp, 1), (752, .ifCond .eq 5, 3), (755, .iconst 0, 1), (756, .ireturn, 1), (757, .goto 471, 3), (760, .aload_n 1, 1), (761, .aload_n 0, 1), (762, .iload 4, 2), (764, .iconst 1, 1), (765, .iadd, 1), (766, .iaload, 1), (767, .aload_n 3, 1), (768, .invokestatic 128, 3), (771, .istore 5, 2), (773, .aload_n 2, 1), (774, .aload_n 0, 1), (775, .iload 4, 2)]
theorem d_L_law_14 (i : Nat) {w : Instr × Nat} (e : go_fd t_L_law_14 i = some w) : decode c_L_law i = .ok w := go_fd_ok (tab := t_L_law_14) (by decide +kernel) e
def t_L_law_15 : List (Nat × Instr × Nat) := [(777, .iconst 1, 1), (778, .iadd, 1), (779, .iaload, 1), (780, .invokevirtual 130, 3), (783, .istore 6, 2), (785, .aload_n 2, 1), (786, .invokevirtual 90, 3), (789, .iload 5, 2), (791, .if_icmp .eq 5, 3), (794, .iconst 0, 1), (795, .ireturn, 1), (796, .iload 5, 2), (798, .ifCond .ne 15, 3), (801, .aload_n 3, 1), (802, .iconst 0, 1), (803, .laload, 1), (804, .iload 6, 2), (806, .i2l, 1), (807, .lcmp, 1), (808, .ifCond .eq 5, 3), (811, .iconst 0, 1), (812, .ireturn, 1), (813, .goto 415, 3), (816, .aload_n 1, 1), (817, .aload_n 0, 1), (818, .iload 4, 2), (820, .iconst 1, 1), (821, .iadd, 1), (822, .iaload, 1), (823, .aload_n 0, 1)]
theorem d_L_law_15 (i : Nat) {w : Instr × Nat} (e : go_fd t_L_law_15 i = some w) : decode c_L_law i = .ok w := go_fd_ok (tab := t_L_law_15) (by decide +kernel) e
def t_L_law_16 : List (Nat × Instr × Nat) := [(824, .iload 4, 2), (826, .iconst 2, 1), (827, .iadd, 1), (828, .iaload, 1), (829, .aload_n 0, 1), (830, .iload 4, 2), (832, .iconst 3, 1), (833, .iadd, 1), (834, .iaload, 1), (835, .invokestatic 131, 3), (838, .istore 5, 2), (840, .aload_n 2, 1), (841, .aload_n 0, 1), (842, .iload 4, 2), (844, .iconst 1, 1), (845, .iadd, 1), (846, .iaload, 1), (847, .aload_n 0, 1), (848, .iload 4, 2), (850, .iconst 2, 1), (851, .iadd, 1), (852, .iaload, 1), (853, .aload_n 0, 1), (854, .iload 4, 2), (856, .iconst 3, 1), (857, .iadd, 1), (858, .iaload, 1), (859, .invokevirtual 133, 3), (862, .aload_n 2, 1), (863, .invokevirtual 90, 3)]
theorem d_L_law_16 (i : Nat) {w : Instr × Nat} (e : go_fd t_L_law_16 i = some w) : decode c_L_law i = .ok w := go_fd_ok (tab := t_L_law_16) (by decide +kernel) e
def t_L_law_17 : List (Nat × Instr × Nat) := [(866, .iload 5, 2), (868, .if_icmp .eq 5, 3), (871, .iconst 0, 1), (872, .ireturn, 1), (873, .goto 355, 3), (876, .aload_n 1, 1), (877, .aload_n 0, 1), (878, .iload 4, 2), (880, .iconst 1, 1), (881, .iadd, 1), (882, .iaload, 1), (883, .invokestatic 134, 3), (886, .istore 5, 2), (888, .aload_n 2, 1), (889, .aload_n 0, 1), (890, .iload 4, 2), (892, .iconst 1, 1), (893, .iadd, 1), (894, .iaload, 1), (895, .invokevirtual 136, 3), (898, .aload_n 2, 1), (899, .invokevirtual 90, 3), (902, .iload 5, 2), (904, .if_icmp .eq 5, 3), (907, .iconst 0, 1), (908, .ireturn, 1), (909, .goto 319, 3), (912, .aload_n 1, 1), (913, .aload_n 0, 1), (914, .iload 4, 2)]
theorem d_L_law_17 (i : Nat) {w : Instr × Nat} (e : go_fd t_L_law_17 i = some w) : decode c_L_law i = .ok w := go_fd_ok (tab := t_L_law_17) (by decide +kernel) e
def t_L_law_18 : List (Nat × Instr × Nat) := [(916, .iconst 1, 1), (917, .iadd, 1), (918, .iaload, 1), (919, .aload_n 0, 1), (920, .iload 4, 2), (922, .iconst 2, 1), (923, .iadd, 1), (924, .iaload, 1), (925, .aload_n 3, 1), (926, .invokestatic 137, 3), (929, .istore 5, 2), (931, .aload_n 2, 1), (932, .aload_n 0, 1), (933, .iload 4, 2), (935, .iconst 1, 1), (936, .iadd, 1), (937, .iaload, 1), (938, .aload_n 0, 1), (939, .iload 4, 2), (941, .iconst 2, 1), (942, .iadd, 1), (943, .iaload, 1), (944, .invokevirtual 139, 3), (947, .istore 6, 2), (949, .aload_n 2, 1), (950, .invokevirtual 90, 3), (953, .iload 5, 2), (955, .if_icmp .eq 5, 3), (958, .iconst 0, 1), (959, .ireturn, 1)]
theorem d_L_law_18 (i : Nat) {w : Instr × Nat} (e : go_fd t_L_law_18 i = some w) : decode c_L_law i = .ok w := go_fd_ok (tab := t_L_law_18) (by decide +kernel) e
def t_L_law_19 : List (Nat × Instr × Nat) := [(960, .iload 5, 2), (962, .ifCond .ne 15, 3), (965, .aload_n 3, 1), (966, .iconst 0, 1), (967, .laload, 1), (968, .iload 6, 2), (970, .i2l, 1), (971, .lcmp, 1), (972, .ifCond .eq 5, 3), (975, .iconst 0, 1), (976, .ireturn, 1), (977, .goto 251, 3), (980, .aload_n 1, 1), (981, .aload_n 0, 1), (982, .iload 4, 2), (984, .iconst 1, 1), (985, .iadd, 1), (986, .iaload, 1), (987, .aload_n 0, 1), (988, .iload 4, 2), (990, .iconst 2, 1), (991, .iadd, 1), (992, .iaload, 1), (993, .aload_n 3, 1), (994, .invokestatic 140, 3), (997, .istore 5, 2), (999, .aload_n 2, 1), (1000, .aload_n 0, 1), (1001, .iload 4, 2), (1003, .iconst 1, 1)]
theorem d_L_law_19 (i : Nat) {w : Instr × Nat} (e : go_fd t_L_law_19 i = some w) : decode c_L_law i = .ok w := go_fd_ok (tab := t_L_law_19) (by decide +kernel) e
def t_L_law_20 : List (Nat × Instr × Nat) := [(1004, .iadd, 1), (1005, .iaload, 1), (1006, .aload_n 0, 1), (1007, .iload 4, 2), (1009, .iconst 2, 1), (1010, .iadd, 1), (1011, .iaload, 1), (1012, .invokevirtual 142, 3), (1015, .istore 6, 2), (1017, .aload_n 2, 1), (1018, .invokevirtual 90, 3), (1021, .iload 5, 2), (1023, .if_icmp .eq 5, 3), (1026, .iconst 0, 1), (1027, .ireturn, 1), (1028, .iload 5, 2), (1030, .ifCond .ne 15, 3), (1033, .aload_n 3, 1), (1034, .iconst 0, 1), (1035, .laload, 1), (1036, .iload 6, 2), (1038, .i2l, 1), (1039, .lcmp, 1), (1040, .ifCond .eq 5, 3), (1043, .iconst 0, 1), (1044, .ireturn, 1), (1045, .goto 183, 3), (1048, .aload_n 1, 1), (1049, .aload_n 0, 1), (1050, .iload 4, 2)]
theorem d_L_law_20 (i : Nat) {w : Instr × Nat} (e : go_fd t_L_law_20 i = some w) : decode c_L_law i = .ok w := go_fd_ok (tab := t_L_law_20) (by decide +kernel) e
def t_L_law_21 : List (Nat × Instr × Nat) := [(1052, .iconst 1, 1), (1053, .iadd, 1), (1054, .iaload, 1), (1055, .aload_n 0, 1), (1056, .iload 4, 2), (1058, .iconst 2, 1), (1059, .iadd, 1), (1060, .iaload, 1), (1061, .aload_n 3, 1), (1062, .invokestatic 143, 3), (1065, .istore 5, 2), (1067, .aload_n 2, 1), (1068, .aload_n 0, 1), (1069, .iload 4, 2), (1071, .iconst 1, 1), (1072, .iadd, 1), (1073, .iaload, 1), (1074, .aload_n 0, 1), (1075, .iload 4, 2), (1077, .iconst 2, 1), (1078, .iadd, 1), (1079, .iaload, 1), (1080, .invokevirtual 145, 3), (1083, .istore 6, 2), (1085, .aload_n 2, 1), (1086, .invokevirtual 90, 3), (1089, .iload 5, 2), (1091, .if_icmp .eq 5, 3), (1094, .iconst 0, 1), (1095, .ireturn, 1)]
theorem d_L_law_21 (i : Nat) {w : Instr × Nat} (e : go_fd t_L_law_21 i = some w) : decode c_L_law i = .ok w := go_fd_ok (tab := t_L_law_21) (by decide +kernel) e
def t_L_law_22 : List (Nat × Instr × Nat) := [(1096, .iload 5, 2), (1098, .ifCond .ne 15, 3), (1101, .aload_n 3, 1), (1102, .iconst 0, 1), (1103, .laload, 1), (1104, .iload 6, 2), (1106, .i2l, 1), (1107, .lcmp, 1), (1108, .ifCond .eq 5, 3), (1111, .iconst 0, 1), (1112, .ireturn, 1), (1113, .goto 115, 3), (1116, .aload_n 1, 1), (1117, .aload_n 0, 1), (1118, .iload 4, 2), (1120, .iconst 1, 1), (1121, .iadd, 1), (1122, .iaload, 1), (1123, .aload_n 3, 1), (1124, .invokestatic 146, 3), (1127, .istore 5, 2), (1129, .aload_n 2, 1), (1130, .aload_n 0, 1), (1131, .iload 4, 2), (1133, .iconst 1, 1), (1134, .iadd, 1), (1135, .iaload, 1), (1136, .invokevirtual 148, 3), (1139, .istore 6, 2), (1141, .aload_n 2, 1)]
theorem d_L_law_22 (i : Nat) {w : Instr × Nat} (e : go_fd t_L_law_22 i = some w) : decode c_L_law i = .ok w := go_fd_ok (tab := t_L_law_22) (by decide +kernel) e
def t_L_law_23 : List (Nat × Instr × Nat) := [(1142, .invokevirtual 90, 3), (1145, .iload 5, 2), (1147, .if_icmp .eq 5, 3), (1150, .iconst 0, 1), (1151, .ireturn, 1), (1152, .iload 5, 2), (1154, .ifCond .ne 15, 3), (1157, .aload_n 3, 1), (1158, .iconst 0, 1), (1159, .laload, 1), (1160, .iload 6, 2), (1162, .i2l, 1), (1163, .lcmp, 1), (1164, .ifCond .eq 5, 3), (1167, .iconst 0, 1), (1168, .ireturn, 1), (1169, .goto 59, 3), (1172, .aload_n 1, 1), (1173, .aload_n 0, 1), (1174, .iload 4, 2), (1176, .iconst 1, 1), (1177, .iadd, 1), (1178, .iaload, 1), (1179, .aload_n 3, 1), (1180, .invokestatic 149, 3), (1183, .istore 5, 2), (1185, .aload_n 2, 1), (1186, .aload_n 0, 1), (1187, .iload 4, 2), (1189, .iconst 1, 1)]
theorem d_L_law_23 (i : Nat) {w : Instr × Nat} (e : go_fd t_L_law_23 i = some w) : decode c_L_law i = .ok w := go_fd_ok (tab := t_L_law_23) (by decide +kernel) e
def t_L_law_24 : List (Nat × Instr × Nat) := [(1190, .iadd, 1), (1191, .iaload, 1), (1192, .invokevirtual 151, 3), (1195, .istore 6, 2), (1197, .aload_n 2, 1), (1198, .invokevirtual 90, 3), (1201, .iload 5, 2), (1203, .if_icmp .eq 5, 3), (1206, .iconst 0, 1), (1207, .ireturn, 1), (1208, .iload 5, 2), (1210, .ifCond .ne 15, 3), (1213, .aload_n 3, 1), (1214, .iconst 0, 1), (1215, .laload, 1), (1216, .iload 6, 2), (1218, .i2l, 1), (1219, .lcmp, 1), (1220, .ifCond .eq 5, 3), (1223, .iconst 0, 1), (1224, .ireturn, 1), (1225, .goto 3, 3), (1228, .iinc 4 5, 3), (1231, .goto (-1208), 3), (1234, .iconst 1, 1), (1235, .ireturn, 1)]
theorem d_L_law_24 (i : Nat) {w : Instr × Nat} (e : go_fd t_L_law_24 i = some w) : decode c_L_law i = .ok w := go_fd_ok (tab := t_L_law_24) (by decide +kernel) e
end
section
/-! THE LAYER: a world by keys, a walk that shows no machine. Key k lies at ad k and holds cell k; what varies is v (key, place) alone. -/
def ww (N : Nat) (ad : Nat → Nat) (cell : Nat → va_E) : va_W := (List.range N).map (fun k => (ad k, cell k))
theorem ww_len {N : Nat} {ad : Nat → Nat} {cell : Nat → va_E} : (ww N ad cell).length = N := by simp [ww]
theorem ww_get {N : Nat} {ad : Nat → Nat} {cell : Nat → va_E} {k : Nat} (h : k < N) : (ww N ad cell)[k]? = some (ad k, cell k) := by
  simp only [ww, List.getElem?_map, List.getElem?_range h, Option.map_some]
theorem ww_set {N : Nat} {ad : Nat → Nat} {cell : Nat → va_E} {k : Nat} (h : k < N) (e : va_E) : (ww N ad cell).set k (ad k, e) = ww N ad (va_up cell k e) := by
  apply List.ext_getElem?
  intro j
  by_cases hj : j < N
  · rw [List.getElem?_set, ww_get hj, ww_get hj, ww_len]
    by_cases hk : k = j
    · subst hk
      simp [h, va_up]
    · have : ¬ j = k := fun q => hk q.symm
      simp [hk, va_up, this]
  · rw [List.getElem?_eq_none (by rw [List.length_set, ww_len]; omega), List.getElem?_eq_none (by rw [ww_len]; omega)]
theorem ww_key {N : Nat} {ad : Nat → Nat} {cell : Nat → va_E} {i : Nat} {q : Nat × va_E} (hq : (ww N ad cell)[i]? = some q) : i < N ∧ q = (ad i, cell i) := by
  by_cases hi : i < N
  · rw [ww_get hi] at hq
    exact ⟨hi, (Option.some.inj hq).symm⟩
  · rw [List.getElem?_eq_none (by rw [ww_len]; omega)] at hq
    cases hq
theorem ww_D {A : Nat → Prop} {N : Nat} {ad : Nat → Nat} {cell cell' : Nat → va_E} (h : va_D A (ww N ad cell)) : va_D A (ww N ad cell') := by
  refine ⟨fun i j p q hp hq e => ?_, fun i q hq => ?_⟩
  · obtain ⟨hi, rfl⟩ := ww_key hp
    obtain ⟨hj, rfl⟩ := ww_key hq
    exact h.1 i j _ _ (ww_get hi) (ww_get hj) e
  · obtain ⟨hi, rfl⟩ := ww_key hq
    exact (h.2 i (ad i, cell i) (ww_get hi) : A (ad i))
theorem ww_A {N : Nat} {ad : Nat → Nat} {cell cell' : Nat → va_E} {sz q : Nat} (h : va_A (ww N ad cell) sz q) : va_A (ww N ad cell') sz q := by
  rcases h with ⟨k, e, hk⟩ | h
  · obtain ⟨hi, he⟩ := ww_key hk
    cases he
    exact Or.inl ⟨k, cell' k, ww_get hi⟩
  · exact Or.inr h
theorem ww_Aeq {N : Nat} {ad : Nat → Nat} {cell cell' : Nat → va_E} {sz : Nat} : va_A (ww N ad cell) sz = va_A (ww N ad cell') sz := funext fun q => propext ⟨ww_A, ww_A⟩
theorem go_beq (a b : Nat) : Nat.beq a b = (a == b) := by
  cases h : Nat.beq a b with
  | true =>
    have e := Nat.eq_of_beq_eq_true h
    subst e
    simp
  | false =>
    have e := Nat.ne_of_beq_eq_false h
    simp [e]
/-! the locals: what stands at a place, and a store -/
def go_lk : List (Nat × Value) → Nat → Option Value
  | [], _ => none
  | (j, w) :: r, i => match Nat.beq j i with
    | true => some w
    | false => go_lk r i
def go_dl : List (Nat × Value) → Nat → List (Nat × Value)
  | [], _ => []
  | (j, w) :: r, i => match Nat.beq j i with
    | true => go_dl r i
    | false => match Nat.beq (j + 1) i && w.category == 2 with
      | true => go_dl r i
      | false => (j, w) :: go_dl r i
def go_st : List (Nat × Value) → Nat → Value → List (Nat × Value)
  | [], i, v => [(i, v)]
  | (j, w) :: r, i, v => match Nat.beq j i with
    | true => (i, v) :: go_dl r i
    | false => match Nat.beq (j + 1) i && w.category == 2 with
      | true => go_st r i v
      | false => (j, w) :: go_st r i v
theorem go_lk_mem {lv : List (Nat × Value)} {i : Nat} {v : Value} (h : go_lk lv i = some v) : (i, v) ∈ lv := by
  induction lv with
  | nil => cases h
  | cons q r ih =>
    obtain ⟨j, w⟩ := q
    simp only [go_lk] at h
    cases hb : Nat.beq j i with
    | true =>
      rw [hb] at h
      have e := Nat.eq_of_beq_eq_true hb
      subst e
      cases h
      exact List.mem_cons_self
    | false =>
      rw [hb] at h
      exact List.mem_cons_of_mem _ (ih h)
theorem go_dl_mem {lv : List (Nat × Value)} {i : Nat} {q : Nat × Value} (h : q ∈ go_dl lv i) : q ∈ lv.filter (fun q => !(q.1 == i) && !(q.1 + 1 == i && q.2.category == 2)) := by
  induction lv with
  | nil => cases h
  | cons z r ih =>
    obtain ⟨j, w⟩ := z
    simp only [go_dl] at h
    cases hb : Nat.beq j i with
    | true =>
      rw [hb] at h
      have := ih h
      rw [List.filter_cons]
      split
      · exact List.mem_cons_of_mem _ this
      · exact this
    | false =>
      rw [hb] at h
      cases hc : (Nat.beq (j + 1) i && w.category == 2) with
      | true =>
        rw [hc] at h
        have := ih h
        rw [List.filter_cons]
        split
        · exact List.mem_cons_of_mem _ this
        · exact this
      | false =>
        rw [hc] at h
        have e1 : (j == i) = false := by rw [← go_beq]; exact hb
        have e2 : (j + 1 == i && w.category == 2) = false := by rw [← go_beq]; exact hc
        rw [List.filter_cons, if_pos (by simp only [e1, e2]; rfl)]
        rcases List.mem_cons.mp h with rfl | h
        · exact List.mem_cons_self
        · exact List.mem_cons_of_mem _ (ih h)
theorem go_st_mem {lv : List (Nat × Value)} {i : Nat} {v : Value} {q : Nat × Value} (h : q ∈ go_st lv i v) : q ∈ (i, v) :: lv.filter (fun q => !(q.1 == i) && !(q.1 + 1 == i && q.2.category == 2)) := by
  induction lv with
  | nil => exact h
  | cons z r ih =>
    obtain ⟨j, w⟩ := z
    simp only [go_st] at h
    cases hb : Nat.beq j i with
    | true =>
      rw [hb] at h
      rcases List.mem_cons.mp h with rfl | h
      · exact List.mem_cons_self
      · refine List.mem_cons_of_mem _ ?_
        have := go_dl_mem h
        rw [List.filter_cons]
        split
        · exact List.mem_cons_of_mem _ this
        · exact this
    | false =>
      rw [hb] at h
      cases hc : (Nat.beq (j + 1) i && w.category == 2) with
      | true =>
        rw [hc] at h
        rcases List.mem_cons.mp (ih h) with rfl | h
        · exact List.mem_cons_self
        · refine List.mem_cons_of_mem _ ?_
          rw [List.filter_cons]
          split
          · exact List.mem_cons_of_mem _ h
          · exact h
      | false =>
        rw [hc] at h
        have e1 : (j == i) = false := by rw [← go_beq]; exact hb
        have e2 : (j + 1 == i && w.category == 2) = false := by rw [← go_beq]; exact hc
        rw [List.filter_cons, if_pos (by simp only [e1, e2]; rfl)]
        rcases List.mem_cons.mp h with rfl | h
        · exact List.mem_cons_of_mem _ List.mem_cons_self
        · rcases List.mem_cons.mp (ih h) with rfl | h
          · exact List.mem_cons_self
          · exact List.mem_cons_of_mem _ (List.mem_cons_of_mem _ h)
theorem go_st_has {ls : Array Slot} {n i : Nat} {v : Value} {lv lv' : List (Nat × Value)} (h : lv_has ls n ((i, v) :: lv.filter (fun q => !(q.1 == i) && !(q.1 + 1 == i && q.2.category == 2)))) (e : go_st lv i v = lv') : lv_has ls n lv' :=
  ⟨h.1, h.2.1, fun q hq => h.2.2 q (go_st_mem (by rw [e]; exact hq))⟩
/-! the words: the good ones, and those of a nest and of casts -/
def go_TT : List Cond := lw_tbl.filter goodWord
def go_nk : Cond → Bool
  | .fieldLinkNest _ _ _ _ _ _ => true
  | .methodLinkNest _ _ _ _ => true
  | .castable _ _ => true
  | .declares _ => true
  | _ => false
def go_NW : List Cond := lw_tbl.filter go_nk
theorem go_tt {w : Cond} (i : Nat) (h : lw_tbl[i]? = some w) (hg : goodWord w = true) : w ∈ go_TT := List.mem_filter.mpr ⟨List.mem_of_getElem? h, hg⟩
theorem go_nw {w : Cond} (i : Nat) (h : lw_tbl[i]? = some w) (hg : go_nk w = true) : w ∈ go_NW := List.mem_filter.mpr ⟨List.mem_of_getElem? h, hg⟩
theorem go_nk_warm {w : Cond} {s U : State} (h : go_nk w = true) (hW : s.WarmedH U.vm) (hZ : va_Nw w s) : va_Nw w U := by
  cases w <;> first | exact va_Nw.warmF hW hZ | exact va_Nw.warmM hW hZ | exact va_Nw.warmC hW hZ | exact va_Nw.warmD hW hZ | cases h
theorem go_nk_tab {w : Cond} (h : go_nk w = true) : w.onTables = true := by
  cases w <;> first | rfl | cases h
theorem go_goodTT {ts : List Cond} (h : ∀ w ∈ go_TT, w ∈ ts) : GoodIn ts go_TT := fun w hw => ⟨h w hw, good_of_word (List.mem_filter.mp hw).2⟩
/-! what stays: the tables, the statics, the texts -/
abbrev go_G : Type := va_G × (Nat → ClassId) × Nat × Nat
abbrev go_tys (cA : Nat → ClassId) : List (ClassId × FieldType) := [(cA 0, .int), (cA 1, .boolean), (cA 2, .long), (cA 3, .object RT), (cA 4, .object RI), (cA 5, .object RU), (cA 6, .array .int)]
def go_least : Nat → Value := fun j => .int (match j with | 0 => 0 | 1 => 1 | 2 => 1 | _ => 0)
def go_great : Nat → Value := fun j => .int (match j with | 0 => 99 | 1 => 1000 | 2 => 100000 | _ => 9)
abbrev go_txt : List (String × Nat × String) := []
def go_K (G : go_G) (tx : List (String × Nat × String)) (nc : List (String × String)) (A : Nat → Prop) (U : State) : Prop :=
  va_K G.1 go_cl (go_tys G.2.1) U ∧ vx_Zq Bundle.tN "UNASSIGNED_STACK" Bundle.steD A U U.heap ∧ vx_Zq Bundle.tN "SUPPRESSED_SENTINEL" Bundle.listD A U U.heap ∧
  va_Z RS "LEAST_WHAT" "[I" (.ref G.2.2.1) A U U.heap ∧ va_T .int G.2.2.1 4 go_least A U U.heap ∧ va_Z RS "GREATEST_WHAT" "[I" (.ref G.2.2.2) A U U.heap ∧ va_T .int G.2.2.2 4 go_great A U U.heap ∧
  (∀ w ∈ go_NW, va_Nw w U) ∧ (∀ q ∈ tx, ∃ sa, vk_R q.1 q.2.1 q.2.2 sa U) ∧ ∀ q ∈ nc, va_Nc q.1 q.2 U
theorem go_K_to {G : go_G} {tx : List (String × Nat × String)} {nc : List (String × String)} {A B : Nat → Prop} {s U : State} (hK : go_K G tx nc A s) (hW : s.WarmedH U.vm) (hh : ∀ a : Nat, a < s.heap.size → ¬ A a → U.heap[a]? = s.heap[a]?) (hB : ∀ q, B q → A q) : go_K G tx nc B U := by
  obtain ⟨h1, h2, h3, h4, h5, h6, h7, h8, h9, h10⟩ := hK
  have al := hW.alike
  exact ⟨va_K.moved al h1, ((vx_Zq.moved al h2).kept hh).narrow hB, ((vx_Zq.moved al h3).kept hh).narrow hB, ((va_Z.moved al h4).kept hh).narrow hB, ((va_T.moved al h5).kept hh).narrow hB, ((va_Z.moved al h6).kept hh).narrow hB, ((va_T.moved al h7).kept hh).narrow hB,
    fun w hw => go_nk_warm (List.mem_filter.mp hw).2 hW (h8 w hw), fun q hq => (h9 q hq).imp fun sa h => vk_R.warm hW h, fun q hq => va_Nc.moved al (h10 q hq)⟩
end
section
/-! THE WORLD BEHIND THE CONSTRUCTORS: which key is what, and the cells by v.
keys: 0 the class, 1 rows, 2..11 its rows, 12 triggers, 13 silences, 14 incidents, 15 units, 16.. a trigger, 36.. an incident, 48.. its actedAt, 60.. a unit; 100 the reference, 101..118 its arrays; 119 out -/
abbrev go_V : Type := Nat → Nat → Int32
def u2 (v : go_V) (k j : Nat) (x : Int32) : go_V := fun a b => if a = k ∧ b = j then x else v a b
theorem u2_k {v : go_V} {k j : Nat} {x : Int32} : u2 v k j x k = upd (v k) j x := by
  funext b
  simp [u2, upd]
theorem u2_ne {v : go_V} {k j a : Nat} {x : Int32} (h : ¬ a = k) : u2 v k j x a = v a := by
  funext b
  simp [u2, h]
def go_cls (k : Nat) : Nat :=
  if k < 12 then (if k = 0 then 3 else if k = 1 then 16 else 10) else if k < 16 then (if k = 12 then 13 else if k = 13 then 10 else if k = 14 then 14 else 15)
  else if k < 36 then 1 else if k < 48 then 0 else if k < 60 then 10 else if k < 100 then 2 else if k = 100 then 4 else if k = 107 then 11 else if k < 119 then 10 else if k = 119 then 12 else 99
def go_len (k : Nat) : Nat :=
  if k < 12 then (if k = 1 then 10 else 8) else if k < 16 then (if k = 14 then 12 else if k = 15 then 40 else 20) else if k < 60 then 20
  else if k = 101 then 80 else if k < 107 then 20 else if k < 114 then 12 else if k = 114 then 240 else if k < 119 then 40 else 1
def go_nf (c : Nat) : Nat := match c with | 0 => 8 | 1 => 5 | 2 => 4 | 3 => 14 | _ => 27
def go_isr (c j : Nat) : Bool := match c with
  | 0 => Nat.beq j 7
  | 1 => false
  | 2 => false
  | 3 => Nat.beq j 0 || Nat.beq j 3 || Nat.beq j 5 || Nat.beq j 7 || Nat.beq j 9
  | _ => Nat.beq j 3 || (Nat.ble 5 j && Nat.ble j 9) || (Nat.ble 11 j && Nat.ble j 18) || (Nat.ble 20 j && Nat.ble j 23)
def go_ref (k j : Nat) : Nat :=
  if k = 0 then (match j with | 0 => 1 | 3 => 12 | 5 => 13 | 7 => 14 | _ => 15)
  else if k = 100 then (if j = 3 then 101 else if j < 10 then 97 + j else if j < 19 then 96 + j else 95 + j)
  else k + 12
def go_elt (k i : Nat) : Nat := if k = 1 then 2 + i else if k = 12 then 16 + i else if k = 14 then 36 + i else 60 + i
def go_fs (c : Nat) (ad : Nat → Nat) (v : go_V) (k : Nat) : List Value := (List.range (go_nf c)).map (fun j => match go_isr c j with | true => Value.ref (ad (go_ref k j)) | false => Value.int (v k j))
def cel (cA : Nat → ClassId) (ad : Nat → Nat) (v : go_V) (k : Nat) : va_E := match go_cls k with
  | 10 => .inl (cA 0, go_len k, .inl (v k))
  | 11 => .inl (cA 1, go_len k, .inl (v k))
  | 12 => .inl (cA 2, go_len k, .inr (.inl (fun j => (v k j).toInt64)))
  | 13 => .inl (cA 3, go_len k, .inr (.inr (.inr (.inr (fun j => some (ad (go_elt k j)))))))
  | 14 => .inl (cA 4, go_len k, .inr (.inr (.inr (.inr (fun j => some (ad (go_elt k j)))))))
  | 15 => .inl (cA 5, go_len k, .inr (.inr (.inr (.inr (fun j => some (ad (go_elt k j)))))))
  | 16 => .inl (cA 6, go_len k, .inr (.inr (.inr (.inr (fun j => some (ad (go_elt k j)))))))
  | c => .inr (c, go_fs c ad v k)
theorem go_cls_lt {k : Nat} (h : ¬ go_cls k = 99) : k < 120 := by
  unfold go_cls at h
  repeat' split at h
  all_goals omega
theorem go_ltc {k c : Nat} (h : go_cls k = c) (hc : c < 17) : k < 120 := go_cls_lt (by omega)
section Cel
variable {cA : Nat → ClassId} {ad : Nat → Nat} {v : go_V} {k : Nat}
theorem cel_obj {c : Nat} (h : go_cls k = c) (hc : c < 5) : cel cA ad v k = .inr (c, go_fs c ad v k) := by
  unfold cel
  rw [h]
  rcases (show c = 0 ∨ c = 1 ∨ c = 2 ∨ c = 3 ∨ c = 4 by omega) with rfl | rfl | rfl | rfl | rfl <;> rfl
theorem cel_i (h : go_cls k = 10) : cel cA ad v k = .inl (cA 0, go_len k, .inl (v k)) := by
  unfold cel
  rw [h]
  rfl
theorem cel_z (h : go_cls k = 11) : cel cA ad v k = .inl (cA 1, go_len k, .inl (v k)) := by
  unfold cel
  rw [h]
  rfl
theorem cel_l (h : go_cls k = 12) : cel cA ad v k = .inl (cA 2, go_len k, .inr (.inl (fun j => (v k j).toInt64))) := by
  unfold cel
  rw [h]
  rfl
theorem cel_q {c t : Nat} (h : go_cls k = c) (hc : 13 ≤ c ∧ c ≤ 16) (ht : c = t + 10) : cel cA ad v k = .inl (cA t, go_len k, .inr (.inr (.inr (.inr (fun j => some (ad (go_elt k j))))))) := by
  unfold cel
  rw [h]
  rcases (show c = 13 ∨ c = 14 ∨ c = 15 ∨ c = 16 by omega) with rfl | rfl | rfl | rfl
  · obtain rfl : t = 3 := by omega
    rfl
  · obtain rfl : t = 4 := by omega
    rfl
  · obtain rfl : t = 5 := by omega
    rfl
  · obtain rfl : t = 6 := by omega
    rfl
theorem cel_ne {j a : Nat} {x : Int32} (h : ¬ a = k) : cel cA ad (u2 v k j x) a = cel cA ad v a := by
  unfold cel go_fs
  rw [u2_ne h]
theorem go_fs_get {c j : Nat} (hj : j < go_nf c) (hr : go_isr c j = false) : (go_fs c ad v k)[j]? = some (.int (v k j)) := by
  unfold go_fs
  rw [List.getElem?_map, List.getElem?_range hj, Option.map_some, hr]
theorem go_fs_ref {c j : Nat} (hj : j < go_nf c) (hr : go_isr c j = true) : (go_fs c ad v k)[j]? = some (.ref (ad (go_ref k j))) := by
  unfold go_fs
  rw [List.getElem?_map, List.getElem?_range hj, Option.map_some, hr]
theorem go_fs_len {c : Nat} : (go_fs c ad v k).length = go_nf c := by simp [go_fs]
theorem go_fs_set {c j : Nat} {x : Int32} (hj : j < go_nf c) (hr : go_isr c j = false) : (go_fs c ad v k).set j (.int x) = go_fs c ad (u2 v k j x) k := by
  apply List.ext_getElem?
  intro i
  by_cases hi : i < go_nf c
  · rw [List.getElem?_set, go_fs_len]
    by_cases e : j = i
    · subst e
      rw [if_pos rfl, if_pos hi, go_fs_get hi hr]
      simp [u2]
    · rw [if_neg e]
      have e2 : ¬ i = j := fun q => e q.symm
      unfold go_fs
      rw [List.getElem?_map, List.getElem?_map, List.getElem?_range hi]
      simp [u2, e2]
  · rw [List.getElem?_eq_none (by rw [List.length_set, go_fs_len]; omega), List.getElem?_eq_none (by rw [go_fs_len]; omega)]
theorem cel_put {c j : Nat} {x : Int32} (h : go_cls k = c) (hc : c < 5) (hj : j < go_nf c) (hr : go_isr c j = false) : va_up (cel cA ad v) k (.inr (c, (go_fs c ad v k).set j (.int x))) = cel cA ad (u2 v k j x) := by
  funext a
  by_cases e : a = k
  · subst e
    rw [va_up_self, cel_obj h hc, go_fs_set hj hr]
  · rw [va_up_ne _ _ e, cel_ne e]
theorem cel_ist {i : Nat} {x : Int32} (h : go_cls k = 10) : va_up (cel cA ad v) k (.inl (cA 0, go_len k, .inl (upd (v k) i x))) = cel cA ad (u2 v k i x) := by
  funext a
  by_cases e : a = k
  · subst e
    rw [va_up_self, cel_i h, u2_k]
  · rw [va_up_ne _ _ e, cel_ne e]
theorem cel_zst {i : Nat} {x : Int32} (h : go_cls k = 11) : va_up (cel cA ad v) k (.inl (cA 1, go_len k, .inl (upd (v k) i x))) = cel cA ad (u2 v k i x) := by
  funext a
  by_cases e : a = k
  · subst e
    rw [va_up_self, cel_z h, u2_k]
  · rw [va_up_ne _ _ e, cel_ne e]
theorem cel_lst {i : Nat} {x : Int32} (h : go_cls k = 12) : va_up (cel cA ad v) k (.inl (cA 2, go_len k, .inr (.inl (vp_updL (fun j => (v k j).toInt64) i x.toInt64)))) = cel cA ad (u2 v k i x) := by
  funext a
  by_cases e : a = k
  · subst e
    rw [va_up_self, cel_l h]
    congr 5
    funext j
    unfold vp_updL
    by_cases e2 : j = i <;> simp [u2, e2]
  · rw [va_up_ne _ _ e, cel_ne e]
end Cel
end
section
/-! THE WALK WITHOUT THE MACHINE (rules laid by wip/whole/golayer.py) -/
def go_tx : List (String × Nat × String) := [(RS, 199, "no such step"), (RS, 201, "no such skill"), (RS, 205, "a number is outside its range"), (RS, 56, "an open incident is above this step"), (RS, 67, "no such kind"), (RS, 82, "no room for one more trigger"), (RS, 95, "no room for one more incident"), (RS, 210, "no such incident"), (RS, 208, "the incident is closed"), (RS, 145, "the incident's step is not above this one"), (RS, 157, "no room for one more unit"), (RS, 212, "no such unit"), (RS, 170, "the unit is not free"), (RS, 175, "the unit is not under way"), (RS, 187, "no such thing is told of an incident"), (RS, 189, "no such thing is told of a unit"), (RS, 191, "no such trigger"), (RS, 197, "no such thing is counted")]
def go_ex (e : Nat) : String := match e with | 1 => "java/lang/IllegalArgumentException" | 2 => "java/lang/IndexOutOfBoundsException" | 3 => "java/lang/IllegalStateException" | _ => "java/lang/UnsupportedOperationException"
def go_nc : List (String × String) := [(go_ex 1, go_ex 2), (go_ex 1, go_ex 3), (go_ex 1, go_ex 4), (go_ex 2, go_ex 1), (go_ex 2, go_ex 3), (go_ex 2, go_ex 4), (go_ex 3, go_ex 1), (go_ex 3, go_ex 2), (go_ex 3, go_ex 4), (go_ex 4, go_ex 1), (go_ex 4, go_ex 2), (go_ex 4, go_ex 3)]
/-- a method: its bytes, locals, answer's type, class, table of handlers, room -/
abbrev go_M : Type := ByteArray × Nat × Option FieldType × String × List ExceptionTableEntry × Room
abbrev go_En : Type := List Frame → Array Value → State → (Nat → Prop) → State → Prop
def go_F (p : Program) (s : State) (m : MethodId) (args : Array Value) (meth : Method) (c : Code) (M : go_M) : Prop :=
  p.tables.exec = Jvm.exec ∧ c.code = M.1 ∧ c.maxLocals = M.2.1 ∧ meth.sig.returnType = M.2.2.1 ∧ s.vm.findClass M.2.2.2.1 = some m.cls ∧ (∀ w ∈ go_TT, w.before args s = true) ∧ meth.locks = false ∧ c.exceptionTable.toList = M.2.2.2.2.1
abbrev go_W (G : go_G) (ad : Nat → Nat) (v : go_V) : va_W := ww 120 ad (cel G.2.1 ad v)
def go_C (G : go_G) (M : go_M) (Ex : State → (Nat → Prop) → Prop) (ad : Nat → Nat) (v : go_V) (lv : List (Nat × Value)) (p : Program) (s : State) (m : MethodId) (args : Array Value) (meth : Method) (c : Code) (A : Nat → Prop) (H : Heap) (locs : List Loc) (ls : Array Slot) : Prop :=
  go_F p s m args meth c M ∧ Ex s A ∧ go_K G go_tx go_nc A s ∧ (∀ q, s.heap.size ≤ q → A q) ∧ va_D A (go_W G ad v) ∧ va_P G.1 go_cl (go_W G ad v) H ∧ va_S A s.heap H locs ∧ lv_has ls M.2.1 lv
def Go (l : Launch) (G : go_G) (M : go_M) (Ex : State → (Nat → Prop) → Prop) (En : go_En) (ad : Nat → Nat) (v : go_V) (lv : List (Nat × Value)) (pc : Nat) (st : List Value) (cells slots : Nat) : Prop :=
  ∀ (p : Program) (e : Env) (s : State) (m : MethodId) (args : Array Value) (below : List Frame) (meth : Method) (c : Code) (A : Nat → Prop) (H : Heap) (locs : List Loc) (ls : Array Slot),
    go_C G M Ex ad v lv p s m args meth c A H locs ls → W p l e M.2.2.2.2.2 s m args below meth c H locs cells slots (En below args s A) (F0 m pc ls st)
/-- .. with an exception of the kind e thrown over the frame -/
def Gx (l : Launch) (G : go_G) (M : go_M) (Ex : State → (Nat → Prop) → Prop) (En : go_En) (ad : Nat → Nat) (v : go_V) (lv : List (Nat × Value)) (pc : Nat) (st : List Value) (cells slots : Nat) (x : Nat) : Prop :=
  ∀ (p : Program) (e : Env) (s : State) (m : MethodId) (args : Array Value) (below : List Frame) (meth : Method) (c : Code) (A : Nat → Prop) (H : Heap) (locs : List Loc) (ls : Array Slot),
    go_C G M Ex ad v lv p s m args meth c A H locs ls → ∀ (q : Nat) (ce : Cell), H[q]? = some ce → ce.vm = .none → s.vm.findClass (go_ex x) = some ce.cls → vx_W p l e M.2.2.2.2.2 s m args below meth c H locs cells slots (En below args s A) (F0 m pc ls st) q
/-- how a method ends: kind of its answer (0 none, 1 an int, 2 a reference); exception, int, key, v -/
abbrev go_R : Type := Nat × Int32 × Nat × go_V
def go_rv (kd : Nat) (ad : Nat → Nat) (r : go_R) : Option Value := match kd with | 0 => none | 1 => some (.int r.2.1) | _ => some (.ref (ad r.2.2.1))
def go_Q (G : go_G) (ad : Nat → Nat) (kd : Nat) (r : go_R) (A : Nat → Prop) : Array Value → State → Outcome → State → Prop := fun _ st o t => (r.1 = 0 ∧ o = .returned (go_rv kd ad r) ∧ va_P G.1 go_cl (go_W G ad r.2.2.2) t.heap) ∧ va_F A st t
def go_X (G : go_G) (ad : Nat → Nat) (r : go_R) (A : Nat → Prop) : String → State → State → Prop := fun E st t => ¬ r.1 = 0 ∧ E = go_ex r.1 ∧ va_P G.1 go_cl (go_W G ad r.2.2.2) t.heap ∧ va_F A st t
def go_E (G : go_G) (ad : Nat → Nat) (kd : Nat) (r : go_R) (mc ms : Nat) : go_En := fun below args s A => vx_MQ below (go_Q G ad kd r A) (go_X G ad r A) args s mc ms A
def go_Ex0 : State → (Nat → Prop) → Prop := fun _ _ => True
section GoRules
variable {l : Launch} {G : go_G} {M : go_M} {Ex : State → (Nat → Prop) → Prop} {En : go_En} {ad : Nat → Nat} {v : go_V} {lv : List (Nat × Value)} {pc : Nat} {st : List Value} {cells slots : Nat}
theorem go_iadd {x y : Int32} (hd : decode M.1 pc = .ok (.iadd, 1))  (kk : Go l G M Ex En ad v lv (pc + 1) (.int (x + y) :: st) cells slots) : Go l G M Ex En ad v lv (pc) (.int y :: .int x :: st) cells slots := fun p e s m args below meth c A H locs ls C => lv_iadd C.1.1 C.1.2.1 hd  (kk p e s m args below meth c A H locs ls C)
theorem go_isub {x y : Int32} (hd : decode M.1 pc = .ok (.isub, 1))  (kk : Go l G M Ex En ad v lv (pc + 1) (.int (x - y) :: st) cells slots) : Go l G M Ex En ad v lv (pc) (.int y :: .int x :: st) cells slots := fun p e s m args below meth c A H locs ls C => lv_isub C.1.1 C.1.2.1 hd  (kk p e s m args below meth c A H locs ls C)
theorem go_imul {x y : Int32} (hd : decode M.1 pc = .ok (.imul, 1))  (kk : Go l G M Ex En ad v lv (pc + 1) (.int (x * y) :: st) cells slots) : Go l G M Ex En ad v lv (pc) (.int y :: .int x :: st) cells slots := fun p e s m args below meth c A H locs ls C => lv_imul C.1.1 C.1.2.1 hd  (kk p e s m args below meth c A H locs ls C)
theorem go_iand {x y : Int32} (hd : decode M.1 pc = .ok (.iand, 1))  (kk : Go l G M Ex En ad v lv (pc + 1) (.int (x &&& y) :: st) cells slots) : Go l G M Ex En ad v lv (pc) (.int y :: .int x :: st) cells slots := fun p e s m args below meth c A H locs ls C => lv_iand C.1.1 C.1.2.1 hd  (kk p e s m args below meth c A H locs ls C)
theorem go_iconst {n : Int} {x : Int32} (hd : decode M.1 pc = .ok (.iconst n, 1)) (hv : Int32.ofInt n = x) (kk : Go l G M Ex En ad v lv (pc + 1) (.int x :: st) cells slots) : Go l G M Ex En ad v lv (pc) (st) cells slots := fun p e s m args below meth c A H locs ls C => lv_iconst C.1.1 C.1.2.1 hd hv (kk p e s m args below meth c A H locs ls C)
theorem go_bipush {n : Int} {x : Int32} (hd : decode M.1 pc = .ok (.bipush n, 2)) (hv : (Int8.ofInt n).toInt32 = x) (kk : Go l G M Ex En ad v lv (pc + 2) (.int x :: st) cells slots) : Go l G M Ex En ad v lv (pc) (st) cells slots := fun p e s m args below meth c A H locs ls C => lv_bipush C.1.1 C.1.2.1 hd hv (kk p e s m args below meth c A H locs ls C)
theorem go_sipush {n : Int} {x : Int32} (hd : decode M.1 pc = .ok (.sipush n, 3)) (hv : (Int16.ofInt n).toInt32 = x) (kk : Go l G M Ex En ad v lv (pc + 3) (.int x :: st) cells slots) : Go l G M Ex En ad v lv (pc) (st) cells slots := fun p e s m args below meth c A H locs ls C => lv_sipush C.1.1 C.1.2.1 hd hv (kk p e s m args below meth c A H locs ls C)
theorem go_dup {va : Value} (hd : decode M.1 pc = .ok (.dup, 1)) (hva : va.category = 1) (kk : Go l G M Ex En ad v lv (pc + 1) (va :: va :: st) cells slots) : Go l G M Ex En ad v lv (pc) (va :: st) cells slots := fun p e s m args below meth c A H locs ls C => lv_dup C.1.1 C.1.2.1 hd hva (kk p e s m args below meth c A H locs ls C)
theorem go_pop {va : Value} (hd : decode M.1 pc = .ok (.pop, 1)) (hva : va.category = 1) (kk : Go l G M Ex En ad v lv (pc + 1) (st) cells slots) : Go l G M Ex En ad v lv (pc) (va :: st) cells slots := fun p e s m args below meth c A H locs ls C => lv_pop C.1.1 C.1.2.1 hd hva (kk p e s m args below meth c A H locs ls C)
theorem go_dup2 {va vb : Value} (hd : decode M.1 pc = .ok (.dup2, 1)) (hva : va.category = 1) (hvb : vb.category = 1) (kk : Go l G M Ex En ad v lv (pc + 1) (va :: vb :: va :: vb :: st) cells slots) : Go l G M Ex En ad v lv (pc) (va :: vb :: st) cells slots := fun p e s m args below meth c A H locs ls C => lv_dup2_11 C.1.1 C.1.2.1 hd hva hvb (kk p e s m args below meth c A H locs ls C)
theorem go_i2l {x : Int32} (hd : decode M.1 pc = .ok (.i2l, 1))  (kk : Go l G M Ex En ad v lv (pc + 1) (.long x.toInt64 :: st) cells slots) : Go l G M Ex En ad v lv (pc) (.int x :: st) cells slots := fun p e s m args below meth c A H locs ls C => lv_i2l C.1.1 C.1.2.1 hd rfl (kk p e s m args below meth c A H locs ls C)
theorem go_ldc {i : Nat} {x : Int32} (hd : decode M.1 pc = .ok (.ldc i, 2)) (hw : Cond.constant M.2.2.2.1 i x ∈ go_TT) (kk : Go l G M Ex En ad v lv (pc + 2) (.int x :: st) cells slots) : Go l G M Ex En ad v lv (pc) (st) cells slots := fun p e s m args below meth c A H locs ls C => lv_ldc C.1.1 C.1.2.1 C.1.2.2.2.2.1 (C.1.2.2.2.2.2.1 _ hw) hd (kk p e s m args below meth c A H locs ls C)
theorem go_iload_n {k : Fin 4} {i : Nat} {x : Int32} (hd : decode M.1 pc = .ok (.iload_n k, 1)) (hi : (k : Nat) = i) (hj : go_lk lv i = some (.int x)) (kk : Go l G M Ex En ad v lv (pc + 1) (.int x :: st) cells slots) : Go l G M Ex En ad v lv (pc) (st) cells slots := fun p e s m args below meth c A H locs ls C => lv_iload_n C.1.1 C.1.2.1 hd hi (C.2.2.2.2.2.2.2.2.2 _ (go_lk_mem hj)) (kk p e s m args below meth c A H locs ls C)
theorem go_iload {i : Nat} {x : Int32} (hd : decode M.1 pc = .ok (.iload i, 2)) (hj : go_lk lv i = some (.int x)) (kk : Go l G M Ex En ad v lv (pc + 2) (.int x :: st) cells slots) : Go l G M Ex En ad v lv (pc) (st) cells slots := fun p e s m args below meth c A H locs ls C => lv_iload C.1.1 C.1.2.1 hd (C.2.2.2.2.2.2.2.2.2 _ (go_lk_mem hj)) (kk p e s m args below meth c A H locs ls C)
theorem go_istore_n {k : Fin 4} {i : Nat} {x : Int32} {lv' : List (Nat × Value)} (hd : decode M.1 pc = .ok (.istore_n k, 1)) (hi : (k : Nat) = i) (hn : i < M.2.1) (hl : go_st lv i (Value.int x) = lv') (kk : Go l G M Ex En ad v lv' (pc + 1) (st) cells slots) : Go l G M Ex En ad v lv (pc) (.int x :: st) cells slots := fun p e s m args below meth c A H locs ls C => lv_istore_n C.1.1 C.1.2.1 hd hi C.2.2.2.2.2.2.2 hn rfl (fun ls' hl' => kk p e s m args below meth c A H locs ls' ⟨C.1, C.2.1, C.2.2.1, C.2.2.2.1, C.2.2.2.2.1, C.2.2.2.2.2.1, C.2.2.2.2.2.2.1, go_st_has hl' hl⟩)
theorem go_istore {i : Nat} {x : Int32} {lv' : List (Nat × Value)} (hd : decode M.1 pc = .ok (.istore i, 2)) (hn : i < M.2.1) (hl : go_st lv i (Value.int x) = lv') (kk : Go l G M Ex En ad v lv' (pc + 2) (st) cells slots) : Go l G M Ex En ad v lv (pc) (.int x :: st) cells slots := fun p e s m args below meth c A H locs ls C => lv_istore C.1.1 C.1.2.1 hd C.2.2.2.2.2.2.2 hn rfl (fun ls' hl' => kk p e s m args below meth c A H locs ls' ⟨C.1, C.2.1, C.2.2.1, C.2.2.2.1, C.2.2.2.2.1, C.2.2.2.2.2.1, C.2.2.2.2.2.2.1, go_st_has hl' hl⟩)
theorem go_aload_n {k : Fin 4} {i : Nat} {x : Nat} (hd : decode M.1 pc = .ok (.aload_n k, 1)) (hi : (k : Nat) = i) (hj : go_lk lv i = some (.ref x)) (kk : Go l G M Ex En ad v lv (pc + 1) (.ref x :: st) cells slots) : Go l G M Ex En ad v lv (pc) (st) cells slots := fun p e s m args below meth c A H locs ls C => lv_aload_n C.1.1 C.1.2.1 hd hi (C.2.2.2.2.2.2.2.2.2 _ (go_lk_mem hj)) (kk p e s m args below meth c A H locs ls C)
theorem go_aload {i : Nat} {x : Nat} (hd : decode M.1 pc = .ok (.aload i, 2)) (hj : go_lk lv i = some (.ref x)) (kk : Go l G M Ex En ad v lv (pc + 2) (.ref x :: st) cells slots) : Go l G M Ex En ad v lv (pc) (st) cells slots := fun p e s m args below meth c A H locs ls C => lv_aload C.1.1 C.1.2.1 hd (C.2.2.2.2.2.2.2.2.2 _ (go_lk_mem hj)) (kk p e s m args below meth c A H locs ls C)
theorem go_astore_n {k : Fin 4} {i : Nat} {x : Nat} {lv' : List (Nat × Value)} (hd : decode M.1 pc = .ok (.astore_n k, 1)) (hi : (k : Nat) = i) (hn : i < M.2.1) (hl : go_st lv i (Value.ref x) = lv') (kk : Go l G M Ex En ad v lv' (pc + 1) (st) cells slots) : Go l G M Ex En ad v lv (pc) (.ref x :: st) cells slots := fun p e s m args below meth c A H locs ls C => lv_astore_n C.1.1 C.1.2.1 hd hi C.2.2.2.2.2.2.2 hn rfl (fun ls' hl' => kk p e s m args below meth c A H locs ls' ⟨C.1, C.2.1, C.2.2.1, C.2.2.2.1, C.2.2.2.2.1, C.2.2.2.2.2.1, C.2.2.2.2.2.2.1, go_st_has hl' hl⟩)
theorem go_astore {i : Nat} {x : Nat} {lv' : List (Nat × Value)} (hd : decode M.1 pc = .ok (.astore i, 2)) (hn : i < M.2.1) (hl : go_st lv i (Value.ref x) = lv') (kk : Go l G M Ex En ad v lv' (pc + 2) (st) cells slots) : Go l G M Ex En ad v lv (pc) (.ref x :: st) cells slots := fun p e s m args below meth c A H locs ls C => lv_astore C.1.1 C.1.2.1 hd C.2.2.2.2.2.2.2 hn rfl (fun ls' hl' => kk p e s m args below meth c A H locs ls' ⟨C.1, C.2.1, C.2.2.1, C.2.2.2.1, C.2.2.2.2.1, C.2.2.2.2.2.1, C.2.2.2.2.2.2.1, go_st_has hl' hl⟩)
theorem go_iinc {i : Nat} {n : Int} {x y : Int32} {lv' : List (Nat × Value)} (hd : decode M.1 pc = .ok (.iinc i n, 3)) (hj : go_lk lv i = some (.int x)) (hv : x + Int32.ofInt n = y) (hn : i < M.2.1) (hl : go_st lv i (.int y) = lv') (kk : Go l G M Ex En ad v lv' (pc + 3) (st) cells slots) : Go l G M Ex En ad v lv (pc) (st) cells slots := by
  intro p e s m args below meth c A H locs ls C
  obtain ⟨j, hj⟩ := List.getElem?_of_mem (go_lk_mem hj)
  exact lv_iinc C.1.1 C.1.2.1 hd C.2.2.2.2.2.2.2 hj hv hn rfl (fun ls' hl' => kk p e s m args below meth c A H locs ls' ⟨C.1, C.2.1, C.2.2.1, C.2.2.2.1, C.2.2.2.2.1, C.2.2.2.2.2.1, C.2.2.2.2.2.2.1, go_st_has hl' hl⟩)
theorem go_goto {off : Int} {tgt : Nat} (hd : decode M.1 pc = .ok (.goto off, 3)) (ht : (pc : Int) + off = (tgt : Int)) (kk : Go l G M Ex En ad v lv (tgt) (st) cells slots) : Go l G M Ex En ad v lv (pc) (st) cells slots := fun p e s m args below meth c A H locs ls C => lv_goto C.1.1 C.1.2.1 hd ht (kk p e s m args below meth c A H locs ls C)
theorem go_icmp_eq {x y : Int32} {off : Int} {tgt : Nat} (hd : decode M.1 pc = .ok (.if_icmp .eq off, 3)) (ht : (pc : Int) + off = (tgt : Int)) (ky : x = y → Go l G M Ex En ad v lv (tgt) (st) cells slots) (kn : ¬ (x = y) → Go l G M Ex En ad v lv (pc + 3) (st) cells slots) : Go l G M Ex En ad v lv (pc) (.int y :: .int x :: st) cells slots := fun p e s m args below meth c A H locs ls C => lv_icmp_eq C.1.1 C.1.2.1 hd ht (fun h => ky h p e s m args below meth c A H locs ls C) (fun h => kn h p e s m args below meth c A H locs ls C)
theorem go_if_eq {x : Int32} {off : Int} {tgt : Nat} (hd : decode M.1 pc = .ok (.ifCond .eq off, 3)) (ht : (pc : Int) + off = (tgt : Int)) (ky : x = 0 → Go l G M Ex En ad v lv (tgt) (st) cells slots) (kn : ¬ (x = 0) → Go l G M Ex En ad v lv (pc + 3) (st) cells slots) : Go l G M Ex En ad v lv (pc) (.int x :: st) cells slots := fun p e s m args below meth c A H locs ls C => lv_if_eq C.1.1 C.1.2.1 hd ht (fun h => ky h p e s m args below meth c A H locs ls C) (fun h => kn h p e s m args below meth c A H locs ls C)
theorem go_icmp_ne {x y : Int32} {off : Int} {tgt : Nat} (hd : decode M.1 pc = .ok (.if_icmp .ne off, 3)) (ht : (pc : Int) + off = (tgt : Int)) (ky : ¬ x = y → Go l G M Ex En ad v lv (tgt) (st) cells slots) (kn : x = y → Go l G M Ex En ad v lv (pc + 3) (st) cells slots) : Go l G M Ex En ad v lv (pc) (.int y :: .int x :: st) cells slots := fun p e s m args below meth c A H locs ls C => lv_icmp_ne C.1.1 C.1.2.1 hd ht (fun h => ky h p e s m args below meth c A H locs ls C) (fun h => kn h p e s m args below meth c A H locs ls C)
theorem go_if_ne {x : Int32} {off : Int} {tgt : Nat} (hd : decode M.1 pc = .ok (.ifCond .ne off, 3)) (ht : (pc : Int) + off = (tgt : Int)) (ky : ¬ x = 0 → Go l G M Ex En ad v lv (tgt) (st) cells slots) (kn : x = 0 → Go l G M Ex En ad v lv (pc + 3) (st) cells slots) : Go l G M Ex En ad v lv (pc) (.int x :: st) cells slots := fun p e s m args below meth c A H locs ls C => lv_if_ne C.1.1 C.1.2.1 hd ht (fun h => ky h p e s m args below meth c A H locs ls C) (fun h => kn h p e s m args below meth c A H locs ls C)
theorem go_icmp_lt {x y : Int32} {off : Int} {tgt : Nat} (hd : decode M.1 pc = .ok (.if_icmp .lt off, 3)) (ht : (pc : Int) + off = (tgt : Int)) (ky : x < y → Go l G M Ex En ad v lv (tgt) (st) cells slots) (kn : ¬ (x < y) → Go l G M Ex En ad v lv (pc + 3) (st) cells slots) : Go l G M Ex En ad v lv (pc) (.int y :: .int x :: st) cells slots := fun p e s m args below meth c A H locs ls C => lv_icmp_lt C.1.1 C.1.2.1 hd ht (fun h => ky h p e s m args below meth c A H locs ls C) (fun h => kn h p e s m args below meth c A H locs ls C)
theorem go_if_lt {x : Int32} {off : Int} {tgt : Nat} (hd : decode M.1 pc = .ok (.ifCond .lt off, 3)) (ht : (pc : Int) + off = (tgt : Int)) (ky : x < 0 → Go l G M Ex En ad v lv (tgt) (st) cells slots) (kn : ¬ (x < 0) → Go l G M Ex En ad v lv (pc + 3) (st) cells slots) : Go l G M Ex En ad v lv (pc) (.int x :: st) cells slots := fun p e s m args below meth c A H locs ls C => lv_if_lt C.1.1 C.1.2.1 hd ht (fun h => ky h p e s m args below meth c A H locs ls C) (fun h => kn h p e s m args below meth c A H locs ls C)
theorem go_icmp_ge {x y : Int32} {off : Int} {tgt : Nat} (hd : decode M.1 pc = .ok (.if_icmp .ge off, 3)) (ht : (pc : Int) + off = (tgt : Int)) (ky : y ≤ x → Go l G M Ex En ad v lv (tgt) (st) cells slots) (kn : ¬ (y ≤ x) → Go l G M Ex En ad v lv (pc + 3) (st) cells slots) : Go l G M Ex En ad v lv (pc) (.int y :: .int x :: st) cells slots := fun p e s m args below meth c A H locs ls C => lv_icmp_ge C.1.1 C.1.2.1 hd ht (fun h => ky h p e s m args below meth c A H locs ls C) (fun h => kn h p e s m args below meth c A H locs ls C)
theorem go_if_ge {x : Int32} {off : Int} {tgt : Nat} (hd : decode M.1 pc = .ok (.ifCond .ge off, 3)) (ht : (pc : Int) + off = (tgt : Int)) (ky : 0 ≤ x → Go l G M Ex En ad v lv (tgt) (st) cells slots) (kn : ¬ (0 ≤ x) → Go l G M Ex En ad v lv (pc + 3) (st) cells slots) : Go l G M Ex En ad v lv (pc) (.int x :: st) cells slots := fun p e s m args below meth c A H locs ls C => lv_if_ge C.1.1 C.1.2.1 hd ht (fun h => ky h p e s m args below meth c A H locs ls C) (fun h => kn h p e s m args below meth c A H locs ls C)
theorem go_icmp_gt {x y : Int32} {off : Int} {tgt : Nat} (hd : decode M.1 pc = .ok (.if_icmp .gt off, 3)) (ht : (pc : Int) + off = (tgt : Int)) (ky : y < x → Go l G M Ex En ad v lv (tgt) (st) cells slots) (kn : ¬ (y < x) → Go l G M Ex En ad v lv (pc + 3) (st) cells slots) : Go l G M Ex En ad v lv (pc) (.int y :: .int x :: st) cells slots := fun p e s m args below meth c A H locs ls C => lv_icmp_gt C.1.1 C.1.2.1 hd ht (fun h => ky h p e s m args below meth c A H locs ls C) (fun h => kn h p e s m args below meth c A H locs ls C)
theorem go_if_gt {x : Int32} {off : Int} {tgt : Nat} (hd : decode M.1 pc = .ok (.ifCond .gt off, 3)) (ht : (pc : Int) + off = (tgt : Int)) (ky : 0 < x → Go l G M Ex En ad v lv (tgt) (st) cells slots) (kn : ¬ (0 < x) → Go l G M Ex En ad v lv (pc + 3) (st) cells slots) : Go l G M Ex En ad v lv (pc) (.int x :: st) cells slots := fun p e s m args below meth c A H locs ls C => lv_if_gt C.1.1 C.1.2.1 hd ht (fun h => ky h p e s m args below meth c A H locs ls C) (fun h => kn h p e s m args below meth c A H locs ls C)
theorem go_icmp_le {x y : Int32} {off : Int} {tgt : Nat} (hd : decode M.1 pc = .ok (.if_icmp .le off, 3)) (ht : (pc : Int) + off = (tgt : Int)) (ky : x ≤ y → Go l G M Ex En ad v lv (tgt) (st) cells slots) (kn : ¬ (x ≤ y) → Go l G M Ex En ad v lv (pc + 3) (st) cells slots) : Go l G M Ex En ad v lv (pc) (.int y :: .int x :: st) cells slots := fun p e s m args below meth c A H locs ls C => lv_icmp_le C.1.1 C.1.2.1 hd ht (fun h => ky h p e s m args below meth c A H locs ls C) (fun h => kn h p e s m args below meth c A H locs ls C)
theorem go_if_le {x : Int32} {off : Int} {tgt : Nat} (hd : decode M.1 pc = .ok (.ifCond .le off, 3)) (ht : (pc : Int) + off = (tgt : Int)) (ky : x ≤ 0 → Go l G M Ex En ad v lv (tgt) (st) cells slots) (kn : ¬ (x ≤ 0) → Go l G M Ex En ad v lv (pc + 3) (st) cells slots) : Go l G M Ex En ad v lv (pc) (.int x :: st) cells slots := fun p e s m args below meth c A H locs ls C => lv_if_le C.1.1 C.1.2.1 hd ht (fun h => ky h p e s m args below meth c A H locs ls C) (fun h => kn h p e s m args below meth c A H locs ls C)
end GoRules
end
section
/-! RULES OF THE HEAP: fields, arrays, statics -/
/-- the field j of the class c, by the link idx of the class own: read -/
def go_fl (own : String) (idx c j : Nat) : Prop := ∃ (C : String) (T : u_T) (n : Nat), go_cl[c]? = some (C, T, n) ∧ j < n ∧ go_nf c = n ∧ c < 5 ∧ (∀ w ∈ u_ws C T n, w ∈ go_TT) ∧ (T j).1 = C ∧
  (Cond.fieldLink own idx C (T j).2.1 (T j).2.2.1 ∈ go_TT ∨ ∃ host, Cond.fieldLinkNest own idx C (T j).2.1 (T j).2.2.1 host ∈ go_NW)
/-- .. written, of the type ty -/
def go_fp (own : String) (idx c j : Nat) (ty : FieldType) : Prop := ∃ (C : String) (T : u_T) (n : Nat) (ty0 : Nat → FieldType), go_cl[c]? = some (C, T, n) ∧ j < n ∧ go_nf c = n ∧ c < 5 ∧ (∀ w ∈ u_ws C T n, w ∈ go_TT) ∧ (T j).1 = C ∧
  (Cond.fieldLink own idx C (T j).2.1 (T j).2.2.1 ∈ go_TT ∨ ∃ host, Cond.fieldLinkNest own idx C (T j).2.1 (T j).2.2.1 host ∈ go_NW) ∧
  (∀ k, k < n → parseFieldDescriptor (T k).2.2.1 = some (ty0 k)) ∧ (∀ a, a < n → ∀ b, b < n → a ≠ b → (T a).2.1 ≠ (T b).2.1) ∧ (T j).2.2.2 = false ∧ parseFieldDescriptor (T j).2.2.1 = some ty
def go_in (x : Int32) (n : Nat) : Bool := !(decide (x < 0) || decide (n ≤ x.toNatClampNeg))
theorem go_in_vp {x : Int32} {n : Nat} (h : go_in x n = true) : vp_in x n := by
  unfold go_in at h
  unfold vp_in
  intro q
  rcases q with q | q <;> simp [q] at h
section GoHeap
variable {l : Launch} {G : go_G} {M : go_M} {Ex : State → (Nat → Prop) → Prop} {En : go_En} {ad : Nat → Nat} {v : go_V} {lv : List (Nat × Value)} {pc : Nat} {st : List Value} {cells slots : Nat}
theorem go_cell {A : Nat → Prop} {p : Program} {s : State} {m : MethodId} {args : Array Value} {meth : Method} {c : Code} {H : Heap} {locs : List Loc} {ls : Array Slot} {k : Nat} (_C : go_C G M Ex ad v lv p s m args meth c A H locs ls) (hk : k < 120) : (go_W G ad v)[k]? = some (ad k, cel G.2.1 ad v k) := ww_get hk
/-- a new world behind a write -/
theorem go_C_w {A : Nat → Prop} {p : Program} {s : State} {m : MethodId} {args : Array Value} {meth : Method} {c : Code} {H H1 : Heap} {locs locs1 : List Loc} {ls : Array Slot} {k : Nat} {e : va_E} {v' : go_V} (C : go_C G M Ex ad v lv p s m args meth c A H locs ls) (hk : k < 120) (he : va_up (cel G.2.1 ad v) k e = cel G.2.1 ad v')
    (hP : va_P G.1 go_cl ((go_W G ad v).set k (ad k, e)) H1) (hS : va_S A s.heap H1 locs1) : go_C G M Ex ad v' lv p s m args meth c A H1 locs1 ls := by
  obtain ⟨c1, c2, c3, c4, c5, c6, c7, c8⟩ := C
  refine ⟨c1, c2, c3, c4, ww_D c5, ?_, hS, c8⟩
  have := hP
  rw [show (go_W G ad v).set k (ad k, e) = ww 120 ad (va_up (cel G.2.1 ad v) k e) from ww_set hk e, he] at this
  exact this
theorem go_getI {k idx c j : Nat} (hd : decode M.1 pc = .ok (.getfield idx, 3)) (hf : go_fl M.2.2.2.1 idx c j) (hc : go_cls k = c) (hr : go_isr c j = false) (kk : Go l G M Ex En ad v lv (pc + 3) (.int (v k j) :: st) cells slots) : Go l G M Ex En ad v lv pc (.ref (ad k) :: st) cells slots := by
  intro p e s m args below meth c9 A H locs ls C
  obtain ⟨C1, T, n, h1, h2, h3, h4, h5, h6, h7⟩ := hf
  have hk : k < 120 := go_ltc hc (by omega)
  have he : (go_W G ad v)[k]? = some (ad k, .inr (c, go_fs c ad v k)) := by rw [go_cell C hk, cel_obj hc h4]
  have hv := go_fs_get (ad := ad) (v := v) (k := k) (c := c) (j := j) (by rw [h3]; exact h2) hr
  rcases h7 with h7 | ⟨host, h7⟩
  · exact va_get C.1.1 C.1.2.1 C.1.2.2.2.2.2.1 h5 C.1.2.2.2.2.1 C.2.2.1.1 C.2.2.2.2.2.1 k he h1 j h2 (C.1.2.2.2.2.2.1 _ h7) (fun x h => by rw [h6] at h; exact h) hv hd (kk p e s m args below meth c9 A H locs ls C)
  · exact va_getN C.1.1 C.1.2.1 C.1.2.2.2.2.2.1 h5 C.1.2.2.2.2.1 C.2.2.1.1 C.2.2.2.2.2.1 k he h1 j h2 (va_Nw.use rfl (C.2.2.1.2.2.2.2.2.2.2.1 _ h7)) (fun x h => by rw [h6] at h; exact h) hv hd (kk p e s m args below meth c9 A H locs ls C)
theorem go_getR {k idx c j : Nat} (hd : decode M.1 pc = .ok (.getfield idx, 3)) (hf : go_fl M.2.2.2.1 idx c j) (hc : go_cls k = c) (hr : go_isr c j = true) (kk : Go l G M Ex En ad v lv (pc + 3) (.ref (ad (go_ref k j)) :: st) cells slots) : Go l G M Ex En ad v lv pc (.ref (ad k) :: st) cells slots := by
  intro p e s m args below meth c9 A H locs ls C
  obtain ⟨C1, T, n, h1, h2, h3, h4, h5, h6, h7⟩ := hf
  have hk : k < 120 := go_ltc hc (by omega)
  have he : (go_W G ad v)[k]? = some (ad k, .inr (c, go_fs c ad v k)) := by rw [go_cell C hk, cel_obj hc h4]
  have hv := go_fs_ref (ad := ad) (v := v) (k := k) (c := c) (j := j) (by rw [h3]; exact h2) hr
  rcases h7 with h7 | ⟨host, h7⟩
  · exact va_get C.1.1 C.1.2.1 C.1.2.2.2.2.2.1 h5 C.1.2.2.2.2.1 C.2.2.1.1 C.2.2.2.2.2.1 k he h1 j h2 (C.1.2.2.2.2.2.1 _ h7) (fun x h => by rw [h6] at h; exact h) hv hd (kk p e s m args below meth c9 A H locs ls C)
  · exact va_getN C.1.1 C.1.2.1 C.1.2.2.2.2.2.1 h5 C.1.2.2.2.2.1 C.2.2.1.1 C.2.2.2.2.2.1 k he h1 j h2 (va_Nw.use rfl (C.2.2.1.2.2.2.2.2.2.2.1 _ h7)) (fun x h => by rw [h6] at h; exact h) hv hd (kk p e s m args below meth c9 A H locs ls C)
theorem go_putI {k idx c j : Nat} {x : Int32} {ty : FieldType} (hd : decode M.1 pc = .ok (.putfield idx, 3)) (hf : go_fp M.2.2.2.1 idx c j ty) (hc : go_cls k = c) (hr : go_isr c j = false) (hn : narrow ty (.int x) = .int x) (hfit : fits ty (.int x) = true) (kk : Go l G M Ex En ad (u2 v k j x) lv (pc + 3) st cells slots) : Go l G M Ex En ad v lv pc (.int x :: .ref (ad k) :: st) cells slots := by
  intro p e s m args below meth c9 A H locs ls C
  obtain ⟨C1, T, n, ty0, h1, h2, h3, h4, h5, h6, h7, h8, h9, h10, h11⟩ := hf
  have hk : k < 120 := go_ltc hc (by omega)
  have he : (go_W G ad v)[k]? = some (ad k, .inr (c, go_fs c ad v k)) := by rw [go_cell C hk, cel_obj hc h4]
  have hl : j < (go_fs c ad v k).length := by rw [go_fs_len, h3]; exact h2
  have hq := cel_put (cA := G.2.1) (ad := ad) (v := v) (x := x) hc h4 (by rw [h3]; exact h2) hr
  rcases h7 with h7 | ⟨host, h7⟩
  · exact va_put C.1.1 C.1.2.1 C.1.2.2.2.2.2.1 h5 ty0 h8 h9 C.1.2.2.2.2.1 C.2.2.1.1 C.2.2.2.2.2.1 C.2.2.2.2.1 C.2.2.2.2.2.2.1 k he h1 j h2 (C.1.2.2.2.2.2.1 _ h7) (fun x h => by rw [h6] at h; exact h) h10 h11 hn hfit hl hd (fun H1 locs1 hP hD hS => kk p e s m args below meth c9 A H1 locs1 ls (go_C_w C hk hq hP hS))
  · exact va_putN C.1.1 C.1.2.1 C.1.2.2.2.2.2.1 h5 ty0 h8 h9 C.1.2.2.2.2.1 C.2.2.1.1 C.2.2.2.2.2.1 C.2.2.2.2.1 C.2.2.2.2.2.2.1 k he h1 j h2 (va_Nw.use rfl (C.2.2.1.2.2.2.2.2.2.2.1 _ h7)) (fun x h => by rw [h6] at h; exact h) h10 h11 hn hfit hl hd (fun H1 locs1 hP hD hS => kk p e s m args below meth c9 A H1 locs1 ls (go_C_w C hk hq hP hS))
theorem go_iald {k : Nat} {x : Int32} (hd : decode M.1 pc = .ok (.iaload, 1)) (hc : go_cls k = 10) (hi : go_in x (go_len k) = true) (kk : Go l G M Ex En ad v lv (pc + 1) (.int (v k x.toNatClampNeg) :: st) cells slots) : Go l G M Ex En ad v lv pc (.int x :: .ref (ad k) :: st) cells slots := by
  intro p e s m args below meth c9 A H locs ls C
  have he : (go_W G ad v)[k]? = some (ad k, .inl (G.2.1 0, go_len k, .inl (v k))) := by rw [go_cell C (go_ltc hc (by omega)), cel_i hc]
  exact va_iald C.1.1 C.1.2.1 C.2.2.1.1 C.2.2.2.2.2.1 k 0 he rfl (go_in_vp hi) hd (kk p e s m args below meth c9 A H locs ls C)
theorem go_zald {k : Nat} {x : Int32} (hd : decode M.1 pc = .ok (.baload, 1)) (hc : go_cls k = 11) (hi : go_in x (go_len k) = true) (kk : Go l G M Ex En ad v lv (pc + 1) (.int (v k x.toNatClampNeg) :: st) cells slots) : Go l G M Ex En ad v lv pc (.int x :: .ref (ad k) :: st) cells slots := by
  intro p e s m args below meth c9 A H locs ls C
  have he : (go_W G ad v)[k]? = some (ad k, .inl (G.2.1 1, go_len k, .inl (v k))) := by rw [go_cell C (go_ltc hc (by omega)), cel_z hc]
  exact va_zald C.1.1 C.1.2.1 C.2.2.1.1 C.2.2.2.2.2.1 k 1 he rfl (go_in_vp hi) hd (kk p e s m args below meth c9 A H locs ls C)
theorem go_lald {k : Nat} {x : Int32} (hd : decode M.1 pc = .ok (.laload, 1)) (hc : go_cls k = 12) (hi : go_in x (go_len k) = true) (kk : Go l G M Ex En ad v lv (pc + 1) (.long (v k x.toNatClampNeg).toInt64 :: st) cells slots) : Go l G M Ex En ad v lv pc (.int x :: .ref (ad k) :: st) cells slots := by
  intro p e s m args below meth c9 A H locs ls C
  have he : (go_W G ad v)[k]? = some (ad k, .inl (G.2.1 2, go_len k, .inr (.inl (fun j => (v k j).toInt64)))) := by rw [go_cell C (go_ltc hc (by omega)), cel_l hc]
  exact va_lald C.1.1 C.1.2.1 C.2.2.1.1 C.2.2.2.2.2.1 k 2 he rfl (go_in_vp hi) hd (kk p e s m args below meth c9 A H locs ls C)
theorem go_aald {k c : Nat} {x : Int32} (hd : decode M.1 pc = .ok (.aaload, 1)) (hc : go_cls k = c) (hcc : 13 ≤ c ∧ c ≤ 16) (hi : go_in x (go_len k) = true) (kk : Go l G M Ex En ad v lv (pc + 1) (.ref (ad (go_elt k x.toNatClampNeg)) :: st) cells slots) : Go l G M Ex En ad v lv pc (.int x :: .ref (ad k) :: st) cells slots := by
  intro p e s m args below meth c9 A H locs ls C
  obtain ⟨t, ht⟩ : ∃ t, c = t + 10 := ⟨c - 10, by omega⟩
  have he : (go_W G ad v)[k]? = some (ad k, .inl (G.2.1 t, go_len k, .inr (.inr (.inr (.inr (fun j => some (ad (go_elt k j)))))))) := by rw [go_cell C (go_ltc hc (by omega)), cel_q hc hcc ht]
  have hin := go_in_vp hi
  have hlt : x.toNatClampNeg < go_len k := Nat.not_le.mp fun q => hin (Or.inr q)
  have key : ∀ (t0 : Nat) (ty : FieldType), (go_tys G.2.1)[t0]? = some (G.2.1 t, ty) → ty.isReference = true → W p l e M.2.2.2.2.2 s m args below meth c9 H locs cells slots (En below args s A) (F0 m pc ls (.int x :: .ref (ad k) :: st)) := by
    intro t0 ty ht0 hty
    exact W.aald (v := va_rf (some (ad (go_elt k x.toNatClampNeg)))) (ty := ty) C.1.1 C.1.2.1 (C.2.2.2.2.2.1 k _ he) ((C.2.2.1.1.2 t0 _ ht0).1 (go_len k) (fun j => va_rf (some (ad (go_elt k j))))) hty (fun q => by cases q) (by show ¬ (x < 0 ∨ (arrV _ _ _).slots.size ≤ _); rw [arrV_size]; exact hin) (by show (arrV _ _ _).slots[_]? = _; rw [arrV_read _ _ hlt]) rfl rfl hd (kk p e s m args below meth c9 A H locs ls C)
  rcases (show t = 3 ∨ t = 4 ∨ t = 5 ∨ t = 6 by omega) with rfl | rfl | rfl | rfl
  · exact key 3 _ rfl rfl
  · exact key 4 _ rfl rfl
  · exact key 5 _ rfl rfl
  · exact key 6 _ rfl rfl
theorem go_iast {k : Nat} {x y : Int32} (hd : decode M.1 pc = .ok (.iastore, 1)) (hc : go_cls k = 10) (hi : go_in x (go_len k) = true) (kk : Go l G M Ex En ad (u2 v k x.toNatClampNeg y) lv (pc + 1) st cells slots) : Go l G M Ex En ad v lv pc (.int y :: .int x :: .ref (ad k) :: st) cells slots := by
  intro p e s m args below meth c9 A H locs ls C
  have hk : k < 120 := go_ltc hc (by omega)
  have he : (go_W G ad v)[k]? = some (ad k, .inl (G.2.1 0, go_len k, .inl (v k))) := by rw [go_cell C hk, cel_i hc]
  exact va_iast C.1.1 C.1.2.1 C.2.2.1.1 C.2.2.2.2.2.1 C.2.2.2.2.1 C.2.2.2.2.2.2.1 k 0 he rfl (go_in_vp hi) hd (fun H1 locs1 hP hD hS => kk p e s m args below meth c9 A H1 locs1 ls (go_C_w C hk (cel_ist hc) hP hS))
theorem go_zast {k : Nat} {x y : Int32} (hd : decode M.1 pc = .ok (.bastore, 1)) (hc : go_cls k = 11) (hi : go_in x (go_len k) = true) (hn : vp_nar .boolean y = y) (kk : Go l G M Ex En ad (u2 v k x.toNatClampNeg y) lv (pc + 1) st cells slots) : Go l G M Ex En ad v lv pc (.int y :: .int x :: .ref (ad k) :: st) cells slots := by
  intro p e s m args below meth c9 A H locs ls C
  have hk : k < 120 := go_ltc hc (by omega)
  have he : (go_W G ad v)[k]? = some (ad k, .inl (G.2.1 1, go_len k, .inl (v k))) := by rw [go_cell C hk, cel_z hc]
  refine va_zast C.1.1 C.1.2.1 C.2.2.1.1 C.2.2.2.2.2.1 C.2.2.2.2.1 C.2.2.2.2.2.2.1 k 1 he rfl (go_in_vp hi) hd (fun H1 locs1 hP hD hS => kk p e s m args below meth c9 A H1 locs1 ls (go_C_w C hk (cel_zst hc) ?_ hS))
  rw [hn] at hP
  exact hP
theorem go_last {k : Nat} {x y : Int32} (hd : decode M.1 pc = .ok (.lastore, 1)) (hc : go_cls k = 12) (hi : go_in x (go_len k) = true) (kk : Go l G M Ex En ad (u2 v k x.toNatClampNeg y) lv (pc + 1) st cells slots) : Go l G M Ex En ad v lv pc (.long y.toInt64 :: .int x :: .ref (ad k) :: st) cells slots := by
  intro p e s m args below meth c9 A H locs ls C
  have hk : k < 120 := go_ltc hc (by omega)
  have he : (go_W G ad v)[k]? = some (ad k, .inl (G.2.1 2, go_len k, .inr (.inl (fun j => (v k j).toInt64)))) := by rw [go_cell C hk, cel_l hc]
  exact va_last C.1.1 C.1.2.1 C.2.2.1.1 C.2.2.2.2.2.1 C.2.2.2.2.1 C.2.2.2.2.2.2.1 k 2 he rfl (go_in_vp hi) hd (fun H1 locs1 hP hD hS => kk p e s m args below meth c9 A H1 locs1 ls (go_C_w C hk (cel_lst hc) hP hS))
/-- the two tables of the class -/
theorem go_gsL {idx : Nat} (hd : decode M.1 pc = .ok (.getstatic idx, 3)) (hf : Cond.fieldLink M.2.2.2.1 idx RS "LEAST_WHAT" "[I" ∈ go_TT) (kk : Go l G M Ex En ad v lv (pc + 3) (.ref G.2.2.1 :: st) cells slots) : Go l G M Ex En ad v lv pc st cells slots := fun p e s m args below meth c A H locs ls C =>
  va_gets C.1.1 C.1.2.1 C.2.2.1.2.2.2.1 C.2.2.2.2.2.2.1 C.1.2.2.2.2.1 (C.1.2.2.2.2.2.1 _ hf) (fun _ h => h) hd (kk p e s m args below meth c A H locs ls C)
theorem go_gsG {idx : Nat} (hd : decode M.1 pc = .ok (.getstatic idx, 3)) (hf : Cond.fieldLink M.2.2.2.1 idx RS "GREATEST_WHAT" "[I" ∈ go_TT) (kk : Go l G M Ex En ad v lv (pc + 3) (.ref G.2.2.2 :: st) cells slots) : Go l G M Ex En ad v lv pc st cells slots := fun p e s m args below meth c A H locs ls C =>
  va_gets C.1.1 C.1.2.1 C.2.2.1.2.2.2.2.2.1 C.2.2.2.2.2.2.1 C.1.2.2.2.2.1 (C.1.2.2.2.2.2.1 _ hf) (fun _ h => h) hd (kk p e s m args below meth c A H locs ls C)
def go_lsI (x : Int32) : Int32 := match x.toNatClampNeg with | 0 => 0 | 1 => 1 | 2 => 1 | _ => 0
def go_grI (x : Int32) : Int32 := match x.toNatClampNeg with | 0 => 99 | 1 => 1000 | 2 => 100000 | _ => 9
theorem go_tL {x : Int32} (hd : decode M.1 pc = .ok (.iaload, 1)) (hi : go_in x 4 = true) (kk : Go l G M Ex En ad v lv (pc + 1) (.int (go_lsI x) :: st) cells slots) : Go l G M Ex En ad v lv pc (.int x :: .ref G.2.2.1 :: st) cells slots := fun p e s m args below meth c A H locs ls C =>
  va_ti C.1.1 C.1.2.1 C.2.2.1.2.2.2.2.1 C.2.2.2.2.2.2.1 (go_in_vp hi) rfl hd (kk p e s m args below meth c A H locs ls C)
theorem go_tG {x : Int32} (hd : decode M.1 pc = .ok (.iaload, 1)) (hi : go_in x 4 = true) (kk : Go l G M Ex En ad v lv (pc + 1) (.int (go_grI x) :: st) cells slots) : Go l G M Ex En ad v lv pc (.int x :: .ref G.2.2.2 :: st) cells slots := fun p e s m args below meth c A H locs ls C =>
  va_ti C.1.1 C.1.2.1 C.2.2.1.2.2.2.2.2.2.1 C.2.2.2.2.2.2.1 (go_in_vp hi) rfl hd (kk p e s m args below meth c A H locs ls C)
end GoHeap
end
section
/-! ENDS, THROWS, CALLS, CONTRACTS -/
abbrev go_A (G : go_G) (ad : Nat → Nat) (sz : Nat) : Nat → Prop := va_A (go_W G ad (fun _ _ => 0)) sz
def go_Pc (G : go_G) (ad : Nat → Nat) (v : go_V) (args : List Value) (sz : Nat) : Array Value → State → Prop :=
  va_Pc args (fun U => U.heap.size = sz ∧ go_K G go_tx go_nc (go_A G ad sz) U ∧ va_P G.1 go_cl (go_W G ad v) U.heap ∧ va_D (fun _ => True) (go_W G ad v))
/-- THE CONTRACT of a method: from v, with these arguments, it ends as r says -/
def Ca (l : Launch) (G : go_G) (y : MethodName) (ws : List Cond) (rm : Room) (kd : Nat) (ad : Nat → Nat) (args : List Value) (v : go_V) (r : go_R) : Prop :=
  ∀ sz, vx_Met l y ws rm (go_Pc G ad v args sz) (go_Q G ad kd r (go_A G ad sz)) (go_X G ad r (go_A G ad sz)) rm.cells rm.slots (go_A G ad sz)
theorem go_Pc_blind {G : go_G} {ad : Nat → Nat} {v : go_V} {args : List Value} {sz : Nat} : FrameBlind (go_Pc G ad v args sz) := by
  intro a U g mk h
  obtain ⟨h1, h2, h3, h4, h5⟩ := h
  exact ⟨h1, h2, go_K_to h3 (State.WarmedH.refl U) (fun _ _ _ => rfl) (fun _ h => h), h4, h5⟩
section GoEnds
variable {l : Launch} {G : go_G} {M : go_M} {Ex : State → (Nat → Prop) → Prop} {En : go_En} {ad : Nat → Nat} {v : go_V} {lv : List (Nat × Value)} {pc : Nat} {st : List Value} {cells slots : Nat} {r : go_R} {mc ms : Nat}
theorem go_widen {k n : Nat} (h1 : cells ≤ k) (h2 : slots ≤ n) (kk : Go l G M Ex En ad v lv pc st k n) : Go l G M Ex En ad v lv pc st cells slots := fun p e s m args below meth c A H locs ls C => W.widen h1 h2 (kk p e s m args below meth c A H locs ls C)
theorem go_iret {x : Int32} {k : Nat} {ty : FieldType} (hd : decode M.1 pc = .ok (.ireturn, 1)) (ht : M.2.2.1 = some ty) (hn : narrow ty (.int x) = .int x) (hr : (0, x, k, v) = r) (hc : cells ≤ mc) (hs : slots ≤ ms) : Go l G M Ex (go_E G ad 1 r mc ms) ad v lv pc [.int x] cells slots := by
  intro p e s m args below meth c A H locs ls C
  refine W.widen hc hs (vx_ret (W.zret C.1.1 C.1.2.1 (C.1.2.2.2.1.trans ht) hn (fun t hh _ => ?_) C.2.2.2.2.2.2.1.2.2 hd C.1.2.2.2.2.2.2.1))
  subst hr
  exact ⟨⟨rfl, rfl, by rw [hh]; exact C.2.2.2.2.2.1⟩, C.2.2.2.2.2.2.1.F hh⟩
theorem go_vret {x : Int32} {k : Nat} (hd : decode M.1 pc = .ok (.return_, 1)) (ht : M.2.2.1 = none) (hr : (0, x, k, v) = r) (hc : cells ≤ mc) (hs : slots ≤ ms) : Go l G M Ex (go_E G ad 0 r mc ms) ad v lv pc [] cells slots := by
  intro p e s m args below meth c A H locs ls C
  refine W.widen hc hs (vx_ret (W.vret C.1.1 C.1.2.1 (C.1.2.2.2.1.trans ht) (fun t hh _ => ?_) C.2.2.2.2.2.2.1.2.2 hd C.1.2.2.2.2.2.2.1))
  subst hr
  exact ⟨⟨rfl, rfl, by rw [hh]; exact C.2.2.2.2.2.1⟩, C.2.2.2.2.2.2.1.F hh⟩
theorem go_aret {x : Int32} {k : Nat} {cn : String} (hd : decode M.1 pc = .ok (.areturn, 1)) (ht : M.2.2.1 = some (.object cn)) (hr : (0, x, k, v) = r) (hc : cells ≤ mc) (hs : slots ≤ ms) : Go l G M Ex (go_E G ad 2 r mc ms) ad v lv pc [.ref (ad k)] cells slots := by
  intro p e s m args below meth c A H locs ls C
  refine W.widen hc hs (vx_ret (W.aret C.1.1 C.1.2.1 (C.1.2.2.2.1.trans ht) (Or.inl ⟨_, rfl⟩) (Or.inr ⟨_, rfl⟩) (fun t hh _ => ?_) C.2.2.2.2.2.2.1.2.2 hd C.1.2.2.2.2.2.2.1))
  subst hr
  exact ⟨⟨rfl, rfl, by rw [hh]; exact C.2.2.2.2.2.1⟩, C.2.2.2.2.2.2.1.F hh⟩
/-- 'throw new E("..")' in the class -/
abbrev go_nms : List String := ["java/lang/RuntimeException", "java/lang/Exception"]
def go_xs (ik ic x : Nat) : Prop := Cond.classLink RS ik (go_ex x) ∈ go_TT ∧ Cond.initialized (go_ex x) ∈ go_TT ∧ (∀ w ∈ (vx_atS RS ic (go_ex x) go_nms).filter goodWord, w ∈ go_TT) ∧ (∀ w ∈ (vx_atS RS ic (go_ex x) go_nms).filter (fun w => !goodWord w), w ∈ go_NW) ∧
  (∀ w ∈ Cond.classLink RS ik (go_ex x) :: Cond.initialized (go_ex x) :: vx_atS RS ic (go_ex x) go_nms, vx_ot w = true) ∧ Bundle.fit (go_ex x) = true ∧ (∀ n ∈ go_nms, Bundle.fit n = true) ∧ ¬ x = 0
theorem go_thr {ik is ic x kd k : Nat} {y : Int32} {text : String} (hl : l.stackTraces = false) (hx : go_xs ik ic x) (htx : (RS, is, text) ∈ go_tx) (ho : M.2.2.2.1 = RS) (htb : M.2.2.2.2.1 = [])
    (d0 : decode M.1 pc = .ok (.new ik, 3)) (d3 : decode M.1 (pc + 3) = .ok (.dup, 1)) (d4 : decode M.1 (pc + 4) = .ok (.ldc is, 2)) (d6 : decode M.1 (pc + 6) = .ok (.invokespecial ic, 3)) (d9 : decode M.1 (pc + 9) = .ok (.athrow, 1))
    (hR : 5 < M.2.2.2.2.2.frames ∧ (st.map fun v => v.category).sum + 82 ≤ M.2.2.2.2.2.locals ∧ cells + 1 ≤ M.2.2.2.2.2.cells ∧ slots + 6 ≤ M.2.2.2.2.2.slots) (hr : (x, y, k, v) = r) (hc : cells + 1 ≤ mc) (hs : slots + 6 ≤ ms) : Go l G M Ex (go_E G ad kd r mc ms) ad v lv pc st cells slots := by
  intro p e s m args below meth c A H locs ls C
  obtain ⟨x1, x2, x3, x4, x5, x6, x7, x8⟩ := hx
  obtain ⟨sa, hsa⟩ := C.2.2.1.2.2.2.2.2.2.2.2.1 _ htx
  have hown := C.1.2.2.2.2.1
  rw [ho] at hown
  have hts := C.1.2.2.2.2.2.1
  refine vx_throwS (names := go_nms) C.1.1 C.1.2.1 hl hown x6 x7 (hts _ x1) (hts _ x2) hsa (vx_hat (B := go_NW) (fun w hw => hts w (x3 w hw)) x4 (fun w hw => va_Nw.use (go_nk_tab (List.mem_filter.mp hw).2) (C.2.2.1.2.2.2.2.2.2.2.1 w hw))) x5 C.2.2.1.2.1 C.2.2.1.2.2.1 C.2.2.2.2.2.2.1 (C.2.2.2.2.2.2.2.1.trans C.1.2.2.1.symm) d0 d3 d4 d6 d9 (fun z hz => by rw [C.1.2.2.2.2.2.2.2, htb] at hz; cases hz) hR.1 hR.2.1 hR.2.2.1 hR.2.2.2 C.1.2.2.2.2.2.2.1 (fun t _ h1 h2 => ?_) C.2.2.2.2.2.2.1.2.2 hc hs
  subst hr
  have hP := C.2.2.2.2.2.1
  have hS := C.2.2.2.2.2.2.1
  refine ⟨x8, rfl, hP.kept (fun k q hk => h2 _ ?_), Nat.le_trans hS.1 h1, fun q g1 g2 => by rw [h2 q (Nat.lt_of_lt_of_le g1 hS.1)]; exact hS.2.1 q g1 g2⟩
  exact vx_lt hP hk
/-- an exception that this method doesn't catch -/
theorem gx_out {x kd k : Nat} {y : Int32} (h0 : ¬ x = 0) (htb : M.2.2.2.2.1 = []) (hr : (x, y, k, v) = r) (hc : cells ≤ mc) (hs : slots ≤ ms) : Gx l G M Ex (go_E G ad kd r mc ms) ad v lv pc st cells slots x := by
  intro p e s m args below meth c A H locs ls C q ce hce hcv hcl
  refine vx_out (E := go_ex x) (fun z hz => by rw [C.1.2.2.2.2.2.2.2, htb] at hz; cases hz) C.1.2.2.2.2.2.2.1 hce hcv hcl (fun t ht _ => ?_) C.2.2.2.2.2.2.1.2.2 hc hs
  subst hr
  exact ⟨h0, rfl, by rw [ht]; exact C.2.2.2.2.2.1, C.2.2.2.2.2.2.1.F ht⟩
/-- .. and one that it does: the row z of its table takes it, those ahead don't -/
theorem gx_catch {x : Nat} {nm : String} (pre : List ExceptionTableEntry) (z : ExceptionTableEntry) (suf : List ExceptionTableEntry) (hsplit : M.2.2.2.2.1 = pre ++ z :: suf)
    (hpass : ∀ y ∈ pre, covers y pc = false ∨ (y.catchType ≠ 0 ∧ ∃ nm : String, Cond.classLink M.2.2.2.1 y.catchType nm ∈ go_TT ∧ (go_ex x, nm) ∈ go_nc)) (hx : covers z pc = true) (h0 : z.catchType ≠ 0) (hlink : Cond.classLink M.2.2.2.1 z.catchType nm ∈ go_TT) (hcast : Cond.castable (go_ex x) nm ∈ go_NW)
    (kk : ∀ q : Nat, Go l G M Ex En ad v lv z.handlerPc [.ref q] cells slots) : Gx l G M Ex En ad v lv pc st cells slots x := by
  intro p e s m args below meth c A H locs ls C q ce hce hcv hcl
  refine vx_catch (E := go_ex x) C.1.2.2.2.2.1 pre z suf (C.1.2.2.2.2.2.2.2.trans hsplit) (fun y hy => ?_) hx h0 (C.1.2.2.2.2.2.1 _ hlink) (va_Nw.use (go_nk_tab (List.mem_filter.mp hcast).2) (C.2.2.1.2.2.2.2.2.2.2.1 _ hcast)) hce hcv hcl (kk q p e s m args below meth c A H locs ls C)
  rcases hpass y hy with h | ⟨h1, nm2, h2, h3⟩
  · exact Or.inl h
  · exact Or.inr ⟨h1, nm2, C.1.2.2.2.2.2.1 _ h2, C.2.2.1.2.2.2.2.2.2.2.2.2 _ h3⟩
/-- the callee's start, where the caller stands -/
theorem go_pre {v' : go_V} {p : Program} {s : State} {m : MethodId} {args : Array Value} {meth : Method} {c : Code} {A : Nat → Prop} {H : Heap} {locs : List Loc} {ls : Array Slot} (C : go_C G M Ex ad v lv p s m args meth c A H locs ls) (As : List Value) : (∀ q, go_A G ad H.size q → A q) ∧ ∀ U : State, U.heap = H → s.WarmedH U.vm → go_Pc G ad v As H.size As.toArray U := by
  obtain ⟨c1, c2, c3, c4, c5, c6, c7, c8⟩ := C
  have hB : ∀ q, go_A G ad H.size q → A q := by
    intro q hq
    rcases hq with ⟨k, e, hk⟩ | h
    · obtain ⟨hi, he⟩ := ww_key hk
      cases he
      exact (c5.2 k (ad k, cel G.2.1 ad v k) (ww_get hi) : A (ad k))
    · exact c4 q (Nat.le_trans c7.1 h)
  refine ⟨hB, fun U hU hW => ⟨rfl, by rw [hU], go_K_to c3 hW (fun a h1 h2 => by rw [hU]; exact c7.2.1 a h1 h2) hB, by rw [hU]; exact c6, c5.weaken (fun _ _ _ _ => trivial)⟩⟩
/-- behind a call -/
theorem go_after {kd : Nat} {r1 : go_R} {mc1 ms1 : Nat} {rest : List Value} {a : Array Value} {p : Program} {e : Env} {s : State} {m : MethodId} {args : Array Value} {below : List Frame} {meth : Method} {c : Code} {A : Nat → Prop} {H : Heap} {locs : List Loc} {ls : Array Slot} (C : go_C G M Ex ad v lv p s m args meth c A H locs ls)
    (hr : vx_Run p l e M.2.2.2.2.2 s m args below meth c H locs cells slots mc1 ms1 (F0 m pc ls st) rest (go_Q G ad kd r1 (go_A G ad H.size) a) (go_X G ad r1 (go_A G ad H.size)) (go_A G ad H.size))
    (kn : r1.1 = 0 → Go l G M Ex En ad r1.2.2.2 lv (pc + 3) ((go_rv kd ad r1).toList ++ rest) (cells + mc1) (slots + ms1)) (kx : ¬ r1.1 = 0 → Gx l G M Ex En ad r1.2.2.2 lv pc rest (cells + mc1) (slots + ms1) r1.1) :
    W p l e M.2.2.2.2.2 s m args below meth c H locs cells slots (En below args s A) (F0 m pc ls st) := by
  have hB := (go_pre (v' := v) C []).1
  obtain ⟨c1, c2, c3, c4, c5, c6, c7, c8⟩ := C
  intro T hT X
  rcases hr T hT X with ⟨vv, st₀, t, T', L, h0, X', hL, e1, e2, ⟨⟨h1, hv, hp⟩, hF⟩, stp⟩ | ⟨q, st₀, t, T', L, E, ce, h0, X', hL, e1, e2, ⟨h1, hE, hp, hF⟩, hce, hcv, hcl, stp⟩
  · cases hv
    obtain ⟨k1, k2, k3⟩ := vx_keep h0 e1 c7 (fun q _ h => hB q h) hB hL hF
    obtain ⟨t2, a1, b1⟩ := kn h1 p e s m args below meth c A T'.heap (locs ++ L) ls ⟨c1, c2, c3, c4, ww_D c5, by rw [e1]; exact hp, k3, c8⟩ T' rfl X'
    exact ⟨t2, stp t2 a1, b1⟩
  · obtain ⟨k1, k2, k3⟩ := vx_keep h0 e1 c7 (fun q _ h => hB q h) hB hL hF
    subst hE
    obtain ⟨t2, a1, b1⟩ := kx h1 p e s m args below meth c A T'.heap (locs ++ L) ls ⟨c1, c2, c3, c4, ww_D c5, by rw [e1]; exact hp, k3, c8⟩ q ce (by rw [e1]; exact hce) hcv hcl T' rfl X'
    exact ⟨t2, stp.trans a1, b1⟩
end GoEnds
section GoCalls
variable {l : Launch} {G : go_G} {M : go_M} {Ex : State → (Nat → Prop) → Prop} {En : go_En} {ad : Nat → Nat} {v : go_V} {lv : List (Nat × Value)} {pc : Nat} {cells slots : Nat} {y : MethodName} {cy : ByteArray} {mL : Nat} {rt : Option FieldType} {rm : Room} {kd : Nat} {r1 : go_R} {As rest : List Value}
/-- the words of a call of y by the link idx of own -/
def go_wd (own : String) (idx : Nat) (y : MethodName) (cy : ByteArray) (mL : Nat) (rt : Option FieldType) (n : Nat) : Prop := Cond.methodLink own idx y ∈ go_TT ∧ Cond.code y cy mL rt ∈ go_TT ∧ Cond.initialized y.cls ∈ go_TT ∧ y.cls ≠ "java/lang/invoke/MethodHandle" ∧ y.cls ≠ "java/lang/invoke/VarHandle" ∧ (parseMethodDescriptor y.desc).map (fun d => d.parameters.length) = some n
theorem go_cb {p : Program} {s : State} {m : MethodId} {args : Array Value} {meth : Method} {c : Code} {A : Nat → Prop} {H : Heap} {locs : List Loc} {ls : Array Slot} {idx n : Nat} (C : go_C G M Ex ad v lv p s m args meth c A H locs ls) (hw : go_wd M.2.2.2.1 idx y cy mL rt n) (hR : rm.frames + 1 ≤ M.2.2.2.2.2.frames ∧ 8 + (mL + 11) + rm.locals ≤ M.2.2.2.2.2.locals) : CallB M.2.2.2.2.2 s args M.2.2.2.1 idx y cy mL rt (.code y cy mL rt :: go_TT) rm rm.cells rm.slots n := by
  obtain ⟨h1, h2, h3, h4, h5, h6⟩ := hw
  have hts := C.1.2.2.2.2.2.1
  have hG : GoodIn go_TT (.code y cy mL rt :: go_TT) := fun w hw => by
    rcases List.mem_cons.mp hw with rfl | hw
    · exact go_goodTT (fun _ h => h) _ h2
    · exact go_goodTT (fun _ h => h) w hw
  exact callB_of n hts hG rfl rfl rfl (hts _ h3) (hts _ h1) ⟨h4, h5, h6⟩ hR
theorem go_callV {k idx n ci : Nat} {Cn : String} {T : u_T} {nf : Nat} (hM : Ca l G y (.code y cy mL rt :: go_TT) rm kd ad (.ref (ad k) :: As) v r1) (hd : decode M.1 pc = .ok (.invokevirtual idx, 3)) (hw : go_wd M.2.2.2.1 idx y cy mL rt n) (hw2 : Cond.instanceMethod y ∈ go_TT ∧ Cond.selects Cn y y ∈ go_TT) (hk : go_cls k = ci) (hci : ci < 5) (hcl : go_cl[ci]? = some (Cn, T, nf))
    (hR : rm.frames + 1 ≤ M.2.2.2.2.2.frames ∧ 8 + (mL + 11) + rm.locals ≤ M.2.2.2.2.2.locals) (hn : As.length = n) (hst : (rest.map fun v => v.category).sum ≤ 8) (hf : cells + rm.cells ≤ M.2.2.2.2.2.cells ∧ slots + rm.slots ≤ M.2.2.2.2.2.slots)
    (kn : r1.1 = 0 → Go l G M Ex En ad r1.2.2.2 lv (pc + 3) ((go_rv kd ad r1).toList ++ rest) (cells + rm.cells) (slots + rm.slots)) (kx : ¬ r1.1 = 0 → Gx l G M Ex En ad r1.2.2.2 lv pc rest (cells + rm.cells) (slots + rm.slots) r1.1) :
    Go l G M Ex En ad v lv pc (As.reverse ++ .ref (ad k) :: rest) cells slots := by
  intro p e s m args below meth c A H locs ls C
  have hts := C.1.2.2.2.2.2.1
  have he : (go_W G ad v)[k]? = some (ad k, .inr (ci, go_fs ci ad v k)) := by rw [go_cell C (go_ltc hk (by omega)), cel_obj hk hci]
  exact go_after C (vx_runV (C := Cn) (b := ad k) (As := As) (rest := rest) (g := F0 m pc ls (As.reverse ++ .ref (ad k) :: rest)) ⟨C.1.1, C.1.2.1, C.1.2.2.1, C.1.2.2.2.2.1, hts⟩ (hM H.size) ⟨go_cb C hw hR, hts _ hw2.1, hts _ hw2.2⟩ ⟨go_Pc_blind, va_recv C.2.2.1.1 C.2.2.2.2.2.1 (ci := ci) (q0 := k) hcl he, (go_pre (v' := v) C (.ref (ad k) :: As)).2⟩ rfl hn C.2.2.2.2.2.2.2.1 rfl (lv_room hst) hd hf) kn kx
theorem go_callS {idx n : Nat} (hM : Ca l G y (.code y cy mL rt :: go_TT) rm kd ad As v r1) (hd : decode M.1 pc = .ok (.invokestatic idx, 3)) (hw : go_wd M.2.2.2.1 idx y cy mL rt n) (hw2 : Cond.static y ∈ go_TT)
    (hR : rm.frames + 1 ≤ M.2.2.2.2.2.frames ∧ 8 + (mL + 11) + rm.locals ≤ M.2.2.2.2.2.locals) (hn : As.length = n) (hst : (rest.map fun v => v.category).sum ≤ 8) (hf : cells + rm.cells ≤ M.2.2.2.2.2.cells ∧ slots + rm.slots ≤ M.2.2.2.2.2.slots)
    (kn : r1.1 = 0 → Go l G M Ex En ad r1.2.2.2 lv (pc + 3) ((go_rv kd ad r1).toList ++ rest) (cells + rm.cells) (slots + rm.slots)) (kx : ¬ r1.1 = 0 → Gx l G M Ex En ad r1.2.2.2 lv pc rest (cells + rm.cells) (slots + rm.slots) r1.1) :
    Go l G M Ex En ad v lv pc (As.reverse ++ rest) cells slots := by
  intro p e s m args below meth c A H locs ls C
  have hts := C.1.2.2.2.2.2.1
  exact go_after C (vx_runS (As := As) (rest := rest) (g := F0 m pc ls (As.reverse ++ rest)) ⟨C.1.1, C.1.2.1, C.1.2.2.1, C.1.2.2.2.2.1, hts⟩ (hM H.size) ⟨go_cb C hw hR, hts _ hw2⟩ ⟨go_Pc_blind, (go_pre (v' := v) C As).2⟩ rfl hn C.2.2.2.2.2.2.2.1 rfl (lv_room hst) hd hf) kn kx
/-- a static method with a table of its own -/
theorem go_callSX {idx n : Nat} {hh : List (Nat × Nat × Nat × Nat)} (hM : Ca l G y (.codeWith y cy mL rt hh :: go_TT) rm kd ad As v r1) (hd : decode M.1 pc = .ok (.invokestatic idx, 3)) (hw : Cond.methodLink M.2.2.2.1 idx y ∈ go_TT ∧ Cond.codeWith y cy mL rt hh ∈ go_TT ∧ Cond.initialized y.cls ∈ go_TT ∧ y.cls ≠ "java/lang/invoke/MethodHandle" ∧ y.cls ≠ "java/lang/invoke/VarHandle" ∧ (parseMethodDescriptor y.desc).map (fun d => d.parameters.length) = some n) (hw2 : Cond.static y ∈ go_TT)
    (hR : rm.frames + 1 ≤ M.2.2.2.2.2.frames ∧ 8 + (mL + 11) + rm.locals ≤ M.2.2.2.2.2.locals) (hn : As.length = n) (hst : (rest.map fun v => v.category).sum ≤ 8) (hf : cells + rm.cells ≤ M.2.2.2.2.2.cells ∧ slots + rm.slots ≤ M.2.2.2.2.2.slots)
    (kn : r1.1 = 0 → Go l G M Ex En ad r1.2.2.2 lv (pc + 3) ((go_rv kd ad r1).toList ++ rest) (cells + rm.cells) (slots + rm.slots)) (kx : ¬ r1.1 = 0 → Gx l G M Ex En ad r1.2.2.2 lv pc rest (cells + rm.cells) (slots + rm.slots) r1.1) :
    Go l G M Ex En ad v lv pc (As.reverse ++ rest) cells slots := by
  intro p e s m args below meth c A H locs ls C
  have hts := C.1.2.2.2.2.2.1
  obtain ⟨h1, h2, h3, h4, h5, h6⟩ := hw
  have hG : GoodIn go_TT (.codeWith y cy mL rt hh :: go_TT) := fun w hw => by
    rcases List.mem_cons.mp hw with rfl | hw
    · exact go_goodTT (fun _ h => h) _ h2
    · exact go_goodTT (fun _ h => h) w hw
  have cw : vx_CSW M.2.2.2.2.2 s args M.2.2.2.1 idx y cy mL rt hh (.codeWith y cy mL rt hh :: go_TT) rm rm.cells rm.slots n := ⟨⟨rfl, rfl, hR.1, hR.2, pay_in hts hG, List.mem_cons_self⟩, hts _ h2, hts _ h3, ⟨h4, h5⟩, (fun sig h => by rw [h] at h6; exact (Option.some.inj h6).symm), hts _ h1, hts _ hw2⟩
  exact go_after C (vx_runSX (As := As) (rest := rest) (g := F0 m pc ls (As.reverse ++ rest)) ⟨C.1.1, C.1.2.1, C.1.2.2.1, C.1.2.2.2.2.1, hts⟩ (hM H.size) cw ⟨go_Pc_blind, (go_pre (v' := v) C As).2⟩ rfl hn C.2.2.2.2.2.2.2.1 rfl (lv_room hst) hd hf) kn kx
/-- a private method of a nest mate, which throws nothing -/
theorem go_met {ws : List Cond} {Pc : Array Value → State → Prop} {Qc : Array Value → State → Outcome → State → Prop} {XC : String → State → State → Prop} {mc ms : Nat} {free : Addr → Prop} (hX : ∀ E st t, ¬ XC E st t) (h : vx_Met l y ws rm Pc Qc XC mc ms free) : Met l y ws rm Pc Qc mc ms free := by
  intro p e ha hc hk s m args below hf happ hP hK
  obtain ⟨n, o, h1, h2, h3, h4⟩ := h p e ha hc hk s m args below hf happ hP hK
  refine ⟨n, o, h1, h2, h3, ?_⟩
  rcases h4 with h4 | ⟨q, _, E, ce, L, hx, _⟩
  · exact h4
  · exact absurd hx (hX _ _ _)
theorem go_callN {k idx n ci : Nat} {Cn host : String} {T : u_T} {nf : Nat} (hM : Ca l G y (.code y cy mL rt :: go_TT) rm kd ad (.ref (ad k) :: As) v r1) (h0 : r1.1 = 0) (hd : decode M.1 pc = .ok (.invokevirtual idx, 3)) (hw : Cond.methodLinkNest M.2.2.2.1 idx y host ∈ go_NW ∧ Cond.code y cy mL rt ∈ go_TT ∧ Cond.initialized y.cls ∈ go_TT ∧ y.cls ≠ "java/lang/invoke/MethodHandle" ∧ y.cls ≠ "java/lang/invoke/VarHandle" ∧ (parseMethodDescriptor y.desc).map (fun d => d.parameters.length) = some n) (hw2 : Cond.instanceMethod y ∈ go_TT ∧ Cond.selects Cn y y ∈ go_TT) (hk : go_cls k = ci) (hci : ci < 5) (hcl : go_cl[ci]? = some (Cn, T, nf))
    (hR : rm.frames + 1 ≤ M.2.2.2.2.2.frames ∧ 8 + (mL + 11) + rm.locals ≤ M.2.2.2.2.2.locals) (hn : As.length = n) (hst : (rest.map fun v => v.category).sum ≤ 8) (hf : cells + rm.cells ≤ M.2.2.2.2.2.cells ∧ slots + rm.slots ≤ M.2.2.2.2.2.slots)
    (kn : Go l G M Ex En ad r1.2.2.2 lv (pc + 3) ((go_rv kd ad r1).toList ++ rest) (cells + rm.cells) (slots + rm.slots)) :
    Go l G M Ex En ad v lv pc (As.reverse ++ .ref (ad k) :: rest) cells slots := by
  intro p e s m args below meth c A H locs ls C
  have hts := C.1.2.2.2.2.2.1
  obtain ⟨w1, w2, w3, w4, w5, w6⟩ := hw
  have he : (go_W G ad v)[k]? = some (ad k, .inr (ci, go_fs ci ad v k)) := by rw [go_cell C (go_ltc hk (by omega)), cel_obj hk hci]
  have hG : GoodIn go_TT (.code y cy mL rt :: go_TT) := fun w hw => by
    rcases List.mem_cons.mp hw with rfl | hw
    · exact go_goodTT (fun _ h => h) _ w2
    · exact go_goodTT (fun _ h => h) w hw
  have cw := va_cnB (R := M.2.2.2.2.2) (args := args) (own := M.2.2.2.1) (index := idx) (rm := rm) n hts hG rfl rfl rfl (C.2.2.1.2.2.2.2.2.2.2.1 _ w1) (hts _ w3) ⟨w4, w5, w6⟩ hR
  have hr := va_runVN (p := p) (l := l) (e := e) (below := below) (meth := meth) (locs := locs) (cells := cells) (slots := slots) (C := Cn) (b := ad k) (As := As) (rest := rest) (g := F0 m pc ls (As.reverse ++ .ref (ad k) :: rest)) ⟨C.1.1, C.1.2.1, C.1.2.2.1, C.1.2.2.2.2.1, hts⟩ (go_met (fun E st t h => h.1 h0) (hM H.size)) ⟨cw, hts _ hw2.1, hts _ hw2.2⟩ ⟨go_Pc_blind, va_recv C.2.2.1.1 C.2.2.2.2.2.1 (ci := ci) (q0 := k) hcl he, (go_pre (v' := v) C (.ref (ad k) :: As)).2⟩ rfl hn C.2.2.2.2.2.2.2.1 rfl (lv_room hst) hd hf
  refine go_after (a := (Value.ref (ad k) :: As).toArray) (r1 := r1) C (fun T hT X => ?_) (fun _ => kn) (fun h => absurd h0 h)
  obtain ⟨vv, st₀, t, T', L, q1, q2, q3, q4, q5, q6, q7⟩ := hr T hT X
  exact Or.inl ⟨vv, st₀, t, T', L, q1, q2, q3, q4, q5, q6, q7⟩
end GoCalls
/-- a contract out of a walk of the body -/
theorem go_body {l : Launch} {G : go_G} {y : MethodName} {cy : ByteArray} {mL : Nat} {rt : Option FieldType} {rm : Room} {kd : Nat} {ad : Nat → Nat} {args : List Value} {v : go_V} {r : go_R} {own : String} (hy : plainName y.cls = true) (ho : own = y.cls) (hlen : (lg_sl args).length ≤ mL)
    (h : Go l G (cy, mL, rt, own, [], rm) go_Ex0 (go_E G ad kd r rm.cells rm.slots) ad v (lv_args 0 args) 0 [] 0 0) : Ca l G y (.code y cy mL rt :: go_TT) rm kd ad args v r := by
  intro sz
  refine vx_ofW (cc := cy) (maxL := mL) (ret := rt) hy rfl ?_
  intro p e s m args9 below meth c s₁ B hml ht hv
  obtain ⟨rfl, hsz, hK, hP, hD0⟩ := hv
  subst hsz
  have hts := atoms_spec (ws := .code y cy mL rt :: go_TT) B.pre
  have hl := lv_entry args (n := mL) hlen
  rw [lg_entry_eq]
  subst ho
  have hA : ∀ q, s.heap.size ≤ q → go_A G ad s.heap.size q := fun q h => Or.inr h
  have hD : va_D (go_A G ad s.heap.size) (go_W G ad v) := by
    have := ww_D (cell' := cel G.2.1 ad (fun _ _ => 0)) hD0
    exact ww_D (va_D.self (sz := s.heap.size) this)
  refine h p e s m _ below meth c (go_A G ad s.heap.size) s.heap [] _ ⟨⟨B.exec, B.bytes, hml, B.returns, findClass_of_methodNamed B.named, fun w hw => hts w (List.mem_cons_of_mem _ hw), B.notSynchronized, ?_⟩, trivial, hK, hA, hD, hP, va_S.rf, hl⟩
  exact List.eq_nil_iff_forall_not_mem.mpr fun x hx => ht x hx
/-- .. with a table of its own -/
theorem go_bodyX {l : Launch} {G : go_G} {y : MethodName} {cy : ByteArray} {mL : Nat} {rt : Option FieldType} {rm : Room} {kd : Nat} {ad : Nat → Nat} {args : List Value} {v : go_V} {r : go_R} {own : String} {hh : List (Nat × Nat × Nat × Nat)} (hy : plainName y.cls = true) (ho : own = y.cls) (hlen : (lg_sl args).length ≤ mL)
    (h : Go l G (cy, mL, rt, own, tableOf hh, rm) go_Ex0 (go_E G ad kd r rm.cells rm.slots) ad v (lv_args 0 args) 0 [] 0 0) : Ca l G y (.codeWith y cy mL rt hh :: go_TT) rm kd ad args v r := by
  intro sz
  refine vx_ofWH (cc := cy) (maxL := mL) (ret := rt) hy rfl ?_
  intro p e s m args9 below meth c s₁ B hml hv
  obtain ⟨rfl, hsz, hK, hP, hD0⟩ := hv
  subst hsz
  have hts := atoms_spec (ws := .codeWith y cy mL rt hh :: go_TT) B.pre
  have hl := lv_entry args (n := mL) hlen
  rw [lg_entry_eq]
  subst ho
  have hA : ∀ q, s.heap.size ≤ q → go_A G ad s.heap.size q := fun q h => Or.inr h
  have hD : va_D (go_A G ad s.heap.size) (go_W G ad v) := by
    have := ww_D (cell' := cel G.2.1 ad (fun _ _ => 0)) hD0
    exact ww_D (va_D.self (sz := s.heap.size) this)
  exact h p e s m _ below meth c (go_A G ad s.heap.size) s.heap [] _ ⟨⟨B.exec, B.bytes, hml, B.returns, findClass_of_methodNamed B.named, fun w hw => hts w (List.mem_cons_of_mem _ hw), B.notSynchronized, vx_table (x := y) B (hts _ List.mem_cons_self)⟩, trivial, hK, hA, hD, hP, va_S.rf, hl⟩
end
section
/-! COMBINATORS of the read-back functions; switches, Math, longs; fewer locals -/
def FU : Nat := 6000
def gd (b : Bool) (k : Option go_R) : Option go_R := match b with
  | true => k
  | false => none
def br (b : Bool) (k1 k2 : Option go_R) : Option go_R := match b with
  | true => k1
  | false => k2
def bd (o : Option go_R) (k : go_R → Option go_R) : Option go_R := match o with
  | none => none
  | some r => k r
def nt (r1 : go_R) (k : Option go_R) : Option go_R := match r1.1 with
  | 0 => k
  | _ + 1 => none
def tr (r1 : go_R) (k : Option go_R) : Option go_R := match r1.1 with
  | 0 => k
  | e + 1 => some (e + 1, 0, 0, r1.2.2.2)
def ln {α : Type} (a : α) (k : α → Option go_R) : Option go_R := k a
theorem gd_some {b : Bool} {k : Option go_R} {r : go_R} (h : gd b k = some r) : b = true ∧ k = some r := by
  cases b with
  | true => exact ⟨rfl, h⟩
  | false => cases h
theorem br_some {b : Bool} {k1 k2 : Option go_R} {r : go_R} (h : br b k1 k2 = some r) : (b = true ∧ k1 = some r) ∨ (b = false ∧ k2 = some r) := by
  cases b with
  | true => exact Or.inl ⟨rfl, h⟩
  | false => exact Or.inr ⟨rfl, h⟩
theorem bd_some {o : Option go_R} {k : go_R → Option go_R} {r : go_R} (h : bd o k = some r) : ∃ r1, o = some r1 ∧ k r1 = some r := by
  cases o with
  | none => cases h
  | some r1 => exact ⟨r1, rfl, h⟩
theorem nt_some {r1 : go_R} {k : Option go_R} {r : go_R} (h : nt r1 k = some r) : r1.1 = 0 ∧ k = some r := by
  obtain ⟨e, x⟩ := r1
  cases e with
  | zero => exact ⟨rfl, h⟩
  | succ e => cases h
theorem tr_some {r1 : go_R} {k : Option go_R} {r : go_R} (h : tr r1 k = some r) : (r1.1 = 0 ∧ k = some r) ∨ (¬ r1.1 = 0 ∧ (r1.1, (0 : Int32), 0, r1.2.2.2) = r) := by
  obtain ⟨e, x⟩ := r1
  cases e with
  | zero => exact Or.inl ⟨rfl, h⟩
  | succ e => exact Or.inr ⟨Nat.succ_ne_zero e, Option.some.inj h⟩
theorem ln_some {α : Type} {a : α} {k : α → Option go_R} {r : go_R} (h : ln a k = some r) : ∃ z, z = a ∧ k z = some r := ⟨a, rfl, h⟩
def go_subs (lv : List (Nat × Value)) : List (Nat × Value) → Prop
  | [] => True
  | (i, v) :: r => go_lk lv i = some v ∧ go_subs lv r
theorem go_subs_mem {lv lv' : List (Nat × Value)} (h : go_subs lv lv') : ∀ q ∈ lv', q ∈ lv := by
  induction lv' with
  | nil => intro q hq; cases hq
  | cons z r ih =>
    obtain ⟨i, v⟩ := z
    intro q hq
    rcases List.mem_cons.mp hq with rfl | hq
    · exact go_lk_mem h.1
    · exact ih h.2 q hq
def go_lc (a b : Int32) : Int32 := lg_cmp a.toInt64 b.toInt64
section GoMore
variable {l : Launch} {G : go_G} {M : go_M} {Ex : State → (Nat → Prop) → Prop} {En : go_En} {ad : Nat → Nat} {v : go_V} {lv lv' : List (Nat × Value)} {pc : Nat} {st : List Value} {cells slots : Nat}
theorem go_sub (h : go_subs lv lv') (kk : Go l G M Ex En ad v lv' pc st cells slots) : Go l G M Ex En ad v lv pc st cells slots := fun p e s m args below meth c A H locs ls C =>
  kk p e s m args below meth c A H locs ls ⟨C.1, C.2.1, C.2.2.1, C.2.2.2.1, C.2.2.2.2.1, C.2.2.2.2.2.1, C.2.2.2.2.2.2.1, C.2.2.2.2.2.2.2.1, C.2.2.2.2.2.2.2.2.1, fun q hq => C.2.2.2.2.2.2.2.2.2 q (go_subs_mem h q hq)⟩
theorem go_in_spec {x : Int32} {n : Nat} (h : go_in x n = true) : 0 ≤ x.toInt ∧ x.toInt < n := vp_in_iff.mp (go_in_vp h)
theorem go_in_out {x : Int32} {n : Nat} (h : go_in x n = false) : x.toInt < 0 ∨ (n : Int) ≤ x.toInt := by
  rcases Int.lt_or_le x.toInt 0 with h1 | h1
  · exact Or.inl h1
  · rcases Int.lt_or_le x.toInt n with h2 | h2
    · have h3 : vp_in x n := vp_in_iff.mpr ⟨h1, h2⟩
      unfold go_in at h
      unfold vp_in at h3
      have : (decide (x < 0) || decide (n ≤ x.toNatClampNeg)) = true := by
        cases hb : (decide (x < 0) || decide (n ≤ x.toNatClampNeg)) with
        | true => rfl
        | false =>
          rw [hb] at h
          cases h
      rw [Bool.or_eq_true, decide_eq_true_eq, decide_eq_true_eq] at this
      exact absurd this h3
    · exact Or.inr h2
theorem go_tsw {dflt hi : Int} {offs : Array Int} {len : Nat} {x : Int32} {off : Int} {tgt n i : Nat} (hd : decode M.1 pc = .ok (.tableswitch dflt 0 hi offs, len)) (hin : go_in x (n + 1) = true) (hn : hi = (n : Int)) (hi2 : Nat.beq x.toNatClampNeg i = true) (ho : offs[i]? = some off) (ht : (pc : Int) + off = (tgt : Int)) (kk : Go l G M Ex En ad v lv tgt st cells slots) : Go l G M Ex En ad v lv pc (.int x :: st) cells slots := fun p e s m args below meth c A H locs ls C => by
  have h1 := go_in_spec hin
  refine lv_tableIn C.1.1 C.1.2.1 hd (by omega) (by omega) ?_ ht (kk p e s m args below meth c A H locs ls C)
  rw [Int.sub_zero, show x.toInt.toNat = i from Nat.eq_of_beq_eq_true hi2]
  exact ho
theorem go_tswO {dflt hi : Int} {offs : Array Int} {len : Nat} {x : Int32} {tgt n : Nat} (hd : decode M.1 pc = .ok (.tableswitch dflt 0 hi offs, len)) (hin : go_in x (n + 1) = false) (hn : hi = (n : Int)) (ht : (pc : Int) + dflt = (tgt : Int)) (kk : Go l G M Ex En ad v lv tgt st cells slots) : Go l G M Ex En ad v lv pc (.int x :: st) cells slots := fun p e s m args below meth c A H locs ls C => by
  have h1 := go_in_out hin
  exact lv_tableOut C.1.1 C.1.2.1 hd (by omega) ht (kk p e s m args below meth c A H locs ls C)
def go_mw (own : String) (idx : Nat) (y : MethodName) (cy : ByteArray) : Prop := Cond.methodLink own idx y ∈ go_TT ∧ Cond.static y ∈ go_TT ∧ Cond.initialized "java/lang/Math" ∈ go_TT ∧ Cond.code y cy 2 (some .int) ∈ go_TT
theorem go_min {idx : Nat} {x y : Int32} (hd : decode M.1 pc = .ok (.invokestatic idx, 3)) (hw : go_mw M.2.2.2.1 idx Lib.Math.min.name Lib.Math.min.code) (hR : 1 ≤ M.2.2.2.2.2.frames ∧ (st.map fun v => v.category).sum + 13 ≤ M.2.2.2.2.2.locals ∧ cells ≤ M.2.2.2.2.2.cells ∧ slots ≤ M.2.2.2.2.2.slots) (kk : Go l G M Ex En ad v lv (pc + 3) (.int (if y < x then y else x) :: st) cells slots) : Go l G M Ex En ad v lv pc (.int y :: .int x :: st) cells slots := fun p e s m args below meth c A H locs ls C =>
  va_mmin C.1.1 C.1.2.1 (C.1.2.2.1.trans C.2.2.2.2.2.2.2.1.symm) C.1.2.2.2.2.1 (C.1.2.2.2.2.2.1 _ hw.1) (C.1.2.2.2.2.2.1 _ hw.2.1) (C.1.2.2.2.2.2.1 _ hw.2.2.1) (C.1.2.2.2.2.2.1 _ hw.2.2.2) hR.1 hR.2.1 hR.2.2.1 hR.2.2.2 hd (kk p e s m args below meth c A H locs ls C)
theorem go_max {idx : Nat} {x y : Int32} (hd : decode M.1 pc = .ok (.invokestatic idx, 3)) (hw : go_mw M.2.2.2.1 idx Lib.Math.max.name Lib.Math.max.code) (hR : 1 ≤ M.2.2.2.2.2.frames ∧ (st.map fun v => v.category).sum + 13 ≤ M.2.2.2.2.2.locals ∧ cells ≤ M.2.2.2.2.2.cells ∧ slots ≤ M.2.2.2.2.2.slots) (kk : Go l G M Ex En ad v lv (pc + 3) (.int (if x < y then y else x) :: st) cells slots) : Go l G M Ex En ad v lv pc (.int y :: .int x :: st) cells slots := fun p e s m args below meth c A H locs ls C =>
  va_mmax C.1.1 C.1.2.1 (C.1.2.2.1.trans C.2.2.2.2.2.2.2.1.symm) C.1.2.2.2.2.1 (C.1.2.2.2.2.2.1 _ hw.1) (C.1.2.2.2.2.2.1 _ hw.2.1) (C.1.2.2.2.2.2.1 _ hw.2.2.1) (C.1.2.2.2.2.2.1 _ hw.2.2.2) hR.1 hR.2.1 hR.2.2.1 hR.2.2.2 hd (kk p e s m args below meth c A H locs ls C)
theorem go_lcmp {x y : Int32} (hd : decode M.1 pc = .ok (.lcmp, 1)) (kk : Go l G M Ex En ad v lv (pc + 1) (.int (go_lc x y) :: st) cells slots) : Go l G M Ex En ad v lv pc (.long y.toInt64 :: .long x.toInt64 :: st) cells slots := fun p e s m args below meth c A H locs ls C =>
  W.lcmp C.1.1 C.1.2.1 hd (kk p e s m args below meth c A H locs ls C)
end GoMore
section GoCalls2
variable {l : Launch} {G : go_G} {M : go_M} {Ex : State → (Nat → Prop) → Prop} {En : go_En} {ad : Nat → Nat} {v : go_V} {lv : List (Nat × Value)} {pc : Nat} {cells slots c2 s2 : Nat} {y : MethodName} {cy : ByteArray} {mL : Nat} {rt : Option FieldType} {rm : Room} {kd : Nat} {r1 : go_R} {As rest st st2 : List Value}
theorem go_cV {k idx n ci : Nat} {Cn : String} {T : u_T} {nf : Nat} (hs : st = As.reverse ++ .ref (ad k) :: rest) (h2 : (go_rv kd ad r1).toList ++ rest = st2) (hc2 : cells + rm.cells = c2) (hs2 : slots + rm.slots = s2) (hM : Ca l G y (.code y cy mL rt :: go_TT) rm kd ad (.ref (ad k) :: As) v r1) (hd : decode M.1 pc = .ok (.invokevirtual idx, 3)) (hw : go_wd M.2.2.2.1 idx y cy mL rt n) (hw2 : Cond.instanceMethod y ∈ go_TT ∧ Cond.selects Cn y y ∈ go_TT) (hk : go_cls k = ci) (hci : ci < 5) (hcl : go_cl[ci]? = some (Cn, T, nf))
    (hR : rm.frames + 1 ≤ M.2.2.2.2.2.frames ∧ 8 + (mL + 11) + rm.locals ≤ M.2.2.2.2.2.locals) (hn : As.length = n) (hst : (rest.map fun v => v.category).sum ≤ 8) (hf : c2 ≤ M.2.2.2.2.2.cells ∧ s2 ≤ M.2.2.2.2.2.slots)
    (kn : r1.1 = 0 → Go l G M Ex En ad r1.2.2.2 lv (pc + 3) st2 c2 s2) (kx : ¬ r1.1 = 0 → Gx l G M Ex En ad r1.2.2.2 lv pc rest c2 s2 r1.1) : Go l G M Ex En ad v lv pc st cells slots := by
  subst hs; subst h2; subst hc2; subst hs2
  exact go_callV hM hd hw hw2 hk hci hcl hR hn hst hf kn kx
theorem go_cS {idx n : Nat} (hs : st = As.reverse ++ rest) (h2 : (go_rv kd ad r1).toList ++ rest = st2) (hc2 : cells + rm.cells = c2) (hs2 : slots + rm.slots = s2) (hM : Ca l G y (.code y cy mL rt :: go_TT) rm kd ad As v r1) (hd : decode M.1 pc = .ok (.invokestatic idx, 3)) (hw : go_wd M.2.2.2.1 idx y cy mL rt n) (hw2 : Cond.static y ∈ go_TT)
    (hR : rm.frames + 1 ≤ M.2.2.2.2.2.frames ∧ 8 + (mL + 11) + rm.locals ≤ M.2.2.2.2.2.locals) (hn : As.length = n) (hst : (rest.map fun v => v.category).sum ≤ 8) (hf : c2 ≤ M.2.2.2.2.2.cells ∧ s2 ≤ M.2.2.2.2.2.slots)
    (kn : r1.1 = 0 → Go l G M Ex En ad r1.2.2.2 lv (pc + 3) st2 c2 s2) (kx : ¬ r1.1 = 0 → Gx l G M Ex En ad r1.2.2.2 lv pc rest c2 s2 r1.1) : Go l G M Ex En ad v lv pc st cells slots := by
  subst hs; subst h2; subst hc2; subst hs2
  exact go_callS hM hd hw hw2 hR hn hst hf kn kx
theorem go_cN {k idx n ci : Nat} {Cn host : String} {T : u_T} {nf : Nat} (hs : st = As.reverse ++ .ref (ad k) :: rest) (h2 : (go_rv kd ad r1).toList ++ rest = st2) (hc2 : cells + rm.cells = c2) (hs2 : slots + rm.slots = s2) (hM : Ca l G y (.code y cy mL rt :: go_TT) rm kd ad (.ref (ad k) :: As) v r1) (h0 : r1.1 = 0) (hd : decode M.1 pc = .ok (.invokevirtual idx, 3)) (hw : Cond.methodLinkNest M.2.2.2.1 idx y host ∈ go_NW ∧ Cond.code y cy mL rt ∈ go_TT ∧ Cond.initialized y.cls ∈ go_TT ∧ y.cls ≠ "java/lang/invoke/MethodHandle" ∧ y.cls ≠ "java/lang/invoke/VarHandle" ∧ (parseMethodDescriptor y.desc).map (fun d => d.parameters.length) = some n) (hw2 : Cond.instanceMethod y ∈ go_TT ∧ Cond.selects Cn y y ∈ go_TT) (hk : go_cls k = ci) (hci : ci < 5) (hcl : go_cl[ci]? = some (Cn, T, nf))
    (hR : rm.frames + 1 ≤ M.2.2.2.2.2.frames ∧ 8 + (mL + 11) + rm.locals ≤ M.2.2.2.2.2.locals) (hn : As.length = n) (hst : (rest.map fun v => v.category).sum ≤ 8) (hf : c2 ≤ M.2.2.2.2.2.cells ∧ s2 ≤ M.2.2.2.2.2.slots)
    (kn : Go l G M Ex En ad r1.2.2.2 lv (pc + 3) st2 c2 s2) : Go l G M Ex En ad v lv pc st cells slots := by
  subst hs; subst h2; subst hc2; subst hs2
  exact go_callN hM h0 hd hw hw2 hk hci hcl hR hn hst hf kn
theorem go_cX {idx n : Nat} {hh : List (Nat × Nat × Nat × Nat)} (hs : st = As.reverse ++ rest) (h2 : (go_rv kd ad r1).toList ++ rest = st2) (hc2 : cells + rm.cells = c2) (hs2 : slots + rm.slots = s2) (hM : Ca l G y (.codeWith y cy mL rt hh :: go_TT) rm kd ad As v r1) (hd : decode M.1 pc = .ok (.invokestatic idx, 3)) (hw : Cond.methodLink M.2.2.2.1 idx y ∈ go_TT ∧ Cond.codeWith y cy mL rt hh ∈ go_TT ∧ Cond.initialized y.cls ∈ go_TT ∧ y.cls ≠ "java/lang/invoke/MethodHandle" ∧ y.cls ≠ "java/lang/invoke/VarHandle" ∧ (parseMethodDescriptor y.desc).map (fun d => d.parameters.length) = some n) (hw2 : Cond.static y ∈ go_TT)
    (hR : rm.frames + 1 ≤ M.2.2.2.2.2.frames ∧ 8 + (mL + 11) + rm.locals ≤ M.2.2.2.2.2.locals) (hn : As.length = n) (hst : (rest.map fun v => v.category).sum ≤ 8) (hf : c2 ≤ M.2.2.2.2.2.cells ∧ s2 ≤ M.2.2.2.2.2.slots)
    (kn : r1.1 = 0 → Go l G M Ex En ad r1.2.2.2 lv (pc + 3) st2 c2 s2) (kx : ¬ r1.1 = 0 → Gx l G M Ex En ad r1.2.2.2 lv pc rest c2 s2 r1.1) : Go l G M Ex En ad v lv pc st cells slots := by
  subst hs; subst h2; subst hc2; subst hs2
  exact go_callSX hM hd hw hw2 hR hn hst hf kn kx
end GoCalls2
/-- a method's room: d calls deep, mc throws -/
abbrev rmD (d mc : Nat) : Room := { frames := 6 + d, cells := mc, slots := 6 * mc, locals := 100 + 40 * d }
theorem go_nb {x : Int32} (h : decide (x &&& 1 = x) = true) : narrow .boolean (.int x) = .int x := congrArg Value.int (of_decide_eq_true h)
end
section
/-! the words that the walks need, by their places (wip/whole/dec.py) -/
theorem in_I : ∀ w ∈ u_ws RI TI 8, w ∈ go_TT := by decide +kernel
theorem in_T : ∀ w ∈ u_ws RT TT 5, w ∈ go_TT := by decide +kernel
theorem in_U : ∀ w ∈ u_ws RU TU 4, w ∈ go_TT := by decide +kernel
theorem in_S : ∀ w ∈ u_ws RS TS 14, w ∈ go_TT := by decide +kernel
theorem in_M : ∀ w ∈ u_ws RM TM 27, w ∈ go_TT := by decide +kernel
theorem w_63 : Cond.fieldLink RT 7 RT "kind" "I" ∈ go_TT := go_tt 63 (by decide +kernel) rfl
theorem fp_T_7 : go_fp RT 7 1 0 .int := ⟨RT, TT, 5, tyT, rfl, by decide, rfl, by decide, in_T, rfl, Or.inl w_63, tyokT, nmT, rfl, rfl⟩
theorem w_64 : Cond.fieldLink RT 13 RT "what" "I" ∈ go_TT := go_tt 64 (by decide +kernel) rfl
theorem fp_T_13 : go_fp RT 13 1 1 .int := ⟨RT, TT, 5, tyT, rfl, by decide, rfl, by decide, in_T, rfl, Or.inl w_64, tyokT, nmT, rfl, rfl⟩
theorem w_66 : Cond.fieldLink RT 16 RT "step" "I" ∈ go_TT := go_tt 66 (by decide +kernel) rfl
theorem fp_T_16 : go_fp RT 16 1 2 .int := ⟨RT, TT, 5, tyT, rfl, by decide, rfl, by decide, in_T, rfl, Or.inl w_66, tyokT, nmT, rfl, rfl⟩
theorem w_68 : Cond.fieldLink RT 19 RT "span" "I" ∈ go_TT := go_tt 68 (by decide +kernel) rfl
theorem fp_T_19 : go_fp RT 19 1 3 .int := ⟨RT, TT, 5, tyT, rfl, by decide, rfl, by decide, in_T, rfl, Or.inl w_68, tyokT, nmT, rfl, rfl⟩
theorem fl_T_7 : go_fl RT 7 1 0 := ⟨RT, TT, 5, rfl, by decide, rfl, by decide, in_T, rfl, Or.inl w_63⟩
theorem fl_T_13 : go_fl RT 13 1 1 := ⟨RT, TT, 5, rfl, by decide, rfl, by decide, in_T, rfl, Or.inl w_64⟩
theorem w_121 : Cond.fieldLink RU 9 RU "doing" "I" ∈ go_TT := go_tt 121 (by decide +kernel) rfl
theorem fp_U_9 : go_fp RU 9 2 1 .int := ⟨RU, TU, 4, tyU, rfl, by decide, rfl, by decide, in_U, rfl, Or.inl w_121, tyokU, nmU, rfl, rfl⟩
theorem w_123 : Cond.fieldLink RU 15 RU "incident" "I" ∈ go_TT := go_tt 123 (by decide +kernel) rfl
theorem fp_U_15 : go_fp RU 15 2 2 .int := ⟨RU, TU, 4, tyU, rfl, by decide, rfl, by decide, in_U, rfl, Or.inl w_123, tyokU, nmU, rfl, rfl⟩
theorem w_125 : Cond.fieldLink RU 18 RU "distance" "I" ∈ go_TT := go_tt 125 (by decide +kernel) rfl
theorem fp_U_18 : go_fp RU 18 2 3 .int := ⟨RU, TU, 4, tyU, rfl, by decide, rfl, by decide, in_U, rfl, Or.inl w_125, tyokU, nmU, rfl, rfl⟩
theorem fl_U_15 : go_fl RU 15 2 2 := ⟨RU, TU, 4, rfl, by decide, rfl, by decide, in_U, rfl, Or.inl w_123⟩
theorem w_119 : Cond.fieldLink RU 21 RU "skill" "I" ∈ go_TT := go_tt 119 (by decide +kernel) rfl
theorem fl_U_21 : go_fl RU 21 2 0 := ⟨RU, TU, 4, rfl, by decide, rfl, by decide, in_U, rfl, Or.inl w_119⟩
theorem fl_U_9 : go_fl RU 9 2 1 := ⟨RU, TU, 4, rfl, by decide, rfl, by decide, in_U, rfl, Or.inl w_121⟩
theorem fl_U_18 : go_fl RU 18 2 3 := ⟨RU, TU, 4, rfl, by decide, rfl, by decide, in_U, rfl, Or.inl w_125⟩
theorem w_191 : Cond.classLink RS 65 "java/lang/IllegalArgumentException" ∈ go_TT := go_tt 191 (by decide +kernel) rfl
theorem w_37 : Cond.initialized "java/lang/IllegalArgumentException" ∈ go_TT := go_tt 37 (by decide +kernel) rfl
theorem xs_65_69_1 : go_xs 65 69 1 := ⟨w_191, w_37, by decide +kernel, by decide +kernel, by decide +kernel, by decide +kernel, by decide +kernel, by decide⟩
theorem w_267 : Cond.classLink RS 203 "java/lang/IndexOutOfBoundsException" ∈ go_TT := go_tt 267 (by decide +kernel) rfl
theorem w_38 : Cond.initialized "java/lang/IndexOutOfBoundsException" ∈ go_TT := go_tt 38 (by decide +kernel) rfl
theorem xs_203_207_2 : go_xs 203 207 2 := ⟨w_267, w_38, by decide +kernel, by decide +kernel, by decide +kernel, by decide +kernel, by decide +kernel, by decide⟩
theorem w_144 : Cond.fieldLink RS 92 RS "incidentCount" "I" ∈ go_TT := go_tt 144 (by decide +kernel) rfl
theorem fl_S_92 : go_fl RS 92 3 8 := ⟨RS, TS, 14, rfl, by decide, rfl, by decide, in_S, rfl, Or.inl w_144⟩
theorem w_143 : Cond.fieldLink RS 26 RS "incidents" "[LSecondWaves$Incident;" ∈ go_TT := go_tt 143 (by decide +kernel) rfl
theorem fl_S_26 : go_fl RS 26 3 7 := ⟨RS, TS, 14, rfl, by decide, rfl, by decide, in_S, rfl, Or.inl w_143⟩
theorem w_88 : Cond.fieldLinkNest RS 97 RI "open" "Z" RS ∈ go_NW := go_nw 88 (by decide +kernel) rfl
theorem fl_S_97 : go_fl RS 97 0 0 := ⟨RI, TI, 8, rfl, by decide, rfl, by decide, in_I, rfl, Or.inr ⟨_, w_88⟩⟩
theorem w_89 : Cond.fieldLinkNest RS 142 RI "step" "I" RS ∈ go_NW := go_nw 89 (by decide +kernel) rfl
theorem fl_S_142 : go_fl RS 142 0 1 := ⟨RI, TI, 8, rfl, by decide, rfl, by decide, in_I, rfl, Or.inr ⟨_, w_89⟩⟩
theorem w_141 : Cond.fieldLink RS 20 RS "silences" "[I" ∈ go_TT := go_tt 141 (by decide +kernel) rfl
theorem fl_S_20 : go_fl RS 20 3 5 := ⟨RS, TS, 14, rfl, by decide, rfl, by decide, in_S, rfl, Or.inl w_141⟩
theorem w_139 : Cond.fieldLink RS 16 RS "triggers" "[LSecondWaves$Trigger;" ∈ go_TT := go_tt 139 (by decide +kernel) rfl
theorem fl_S_16 : go_fl RS 16 3 3 := ⟨RS, TS, 14, rfl, by decide, rfl, by decide, in_S, rfl, Or.inl w_139⟩
theorem w_65 : Cond.fieldLinkNest RS 221 RT "what" "I" RS ∈ go_NW := go_nw 65 (by decide +kernel) rfl
theorem fl_S_221 : go_fl RS 221 1 1 := ⟨RT, TT, 5, rfl, by decide, rfl, by decide, in_T, rfl, Or.inr ⟨_, w_65⟩⟩
theorem w_142 : Cond.fieldLink RS 218 RS "silenceCount" "I" ∈ go_TT := go_tt 142 (by decide +kernel) rfl
theorem fl_S_218 : go_fl RS 218 3 6 := ⟨RS, TS, 14, rfl, by decide, rfl, by decide, in_S, rfl, Or.inl w_142⟩
theorem fp_S_218 : go_fp RS 218 3 6 .int := ⟨RS, TS, 14, tyS, rfl, by decide, rfl, by decide, in_S, rfl, Or.inl w_142, tyokS, nmS, rfl, rfl⟩
theorem w_295 : Cond.classLink RS 54 "java/lang/IllegalStateException" ∈ go_TT := go_tt 295 (by decide +kernel) rfl
theorem w_39 : Cond.initialized "java/lang/IllegalStateException" ∈ go_TT := go_tt 39 (by decide +kernel) rfl
theorem xs_54_58_3 : go_xs 54 58 3 := ⟨w_295, w_39, by decide +kernel, by decide +kernel, by decide +kernel, by decide +kernel, by decide +kernel, by decide⟩
theorem w_149 : Cond.fieldLink RS 194 RS "actedWithoutRise" "I" ∈ go_TT := go_tt 149 (by decide +kernel) rfl
theorem fl_S_194 : go_fl RS 194 3 13 := ⟨RS, TS, 14, rfl, by decide, rfl, by decide, in_S, rfl, Or.inl w_149⟩
theorem fp_S_194 : go_fp RS 194 3 13 .int := ⟨RS, TS, 14, tyS, rfl, by decide, rfl, by decide, in_S, rfl, Or.inl w_149, tyokS, nmS, rfl, rfl⟩
theorem fp_S_142 : go_fp RS 142 0 1 .int := ⟨RI, TI, 8, tyI, rfl, by decide, rfl, by decide, in_I, rfl, Or.inr ⟨_, w_89⟩, tyokI, nmI, rfl, rfl⟩
theorem w_93 : Cond.fieldLinkNest RS 184 RI "timesUp" "I" RS ∈ go_NW := go_nw 93 (by decide +kernel) rfl
theorem fl_S_184 : go_fl RS 184 0 5 := ⟨RI, TI, 8, rfl, by decide, rfl, by decide, in_I, rfl, Or.inr ⟨_, w_93⟩⟩
theorem fp_S_184 : go_fp RS 184 0 5 .int := ⟨RI, TI, 8, tyI, rfl, by decide, rfl, by decide, in_I, rfl, Or.inr ⟨_, w_93⟩, tyokI, nmI, rfl, rfl⟩
theorem w_96 : Cond.fieldLinkNest RS 228 RI "actedAt" "[I" RS ∈ go_NW := go_nw 96 (by decide +kernel) rfl
theorem fl_S_228 : go_fl RS 228 0 7 := ⟨RI, TI, 8, rfl, by decide, rfl, by decide, in_I, rfl, Or.inr ⟨_, w_96⟩⟩
theorem w_92 : Cond.fieldLinkNest RS 181 RI "timesActed" "I" RS ∈ go_NW := go_nw 92 (by decide +kernel) rfl
theorem fl_S_181 : go_fl RS 181 0 4 := ⟨RI, TI, 8, rfl, by decide, rfl, by decide, in_I, rfl, Or.inr ⟨_, w_92⟩⟩
theorem fp_S_181 : go_fp RS 181 0 4 .int := ⟨RI, TI, 8, tyI, rfl, by decide, rfl, by decide, in_I, rfl, Or.inr ⟨_, w_92⟩, tyokI, nmI, rfl, rfl⟩
theorem w_70 : Cond.fieldLinkNest RS 193 RT "timesActed" "I" RS ∈ go_NW := go_nw 70 (by decide +kernel) rfl
theorem fl_S_193 : go_fl RS 193 1 4 := ⟨RT, TT, 5, rfl, by decide, rfl, by decide, in_T, rfl, Or.inr ⟨_, w_70⟩⟩
theorem fp_S_193 : go_fp RS 193 1 4 .int := ⟨RT, TT, 5, tyT, rfl, by decide, rfl, by decide, in_T, rfl, Or.inr ⟨_, w_70⟩, tyokT, nmT, rfl, rfl⟩
theorem w_67 : Cond.fieldLinkNest RS 234 RT "step" "I" RS ∈ go_NW := go_nw 67 (by decide +kernel) rfl
theorem fl_S_234 : go_fl RS 234 1 2 := ⟨RT, TT, 5, rfl, by decide, rfl, by decide, in_T, rfl, Or.inr ⟨_, w_67⟩⟩
theorem w_137 : Cond.fieldLink RS 61 RS "topStep" "I" ∈ go_TT := go_tt 137 (by decide +kernel) rfl
theorem fl_S_61 : go_fl RS 61 3 1 := ⟨RS, TS, 14, rfl, by decide, rfl, by decide, in_S, rfl, Or.inl w_137⟩
theorem w_393 : Cond.methodLink RS 235 Lib.Math.min.name ∈ go_TT := go_tt 393 (by decide +kernel) rfl
theorem w_394 : Cond.static Lib.Math.min.name ∈ go_TT := go_tt 394 (by decide +kernel) rfl
theorem w_41 : Cond.initialized "java/lang/Math" ∈ go_TT := go_tt 41 (by decide +kernel) rfl
theorem w_395 : Cond.code Lib.Math.min.name Lib.Math.min.code 2 (some .int) ∈ go_TT := go_tt 395 (by decide +kernel) rfl
theorem mw_S_235 : go_mw RS 235 Lib.Math.min.name Lib.Math.min.code := ⟨w_393, w_394, w_41, w_395⟩
theorem w_396 : Cond.methodLink RS 240 y_S_raise ∈ go_TT := go_tt 396 (by decide +kernel) rfl
theorem w_399 : Cond.code y_S_raise c_S_raise 3 none ∈ go_TT := go_tt 399 (by decide +kernel) rfl
theorem w_29 : Cond.initialized RS ∈ go_TT := go_tt 29 (by decide +kernel) rfl
theorem cw_S_240 : go_wd RS 240 y_S_raise c_S_raise 3 none 2 := ⟨w_396, w_399, w_29, by decide, by decide, by decide +kernel⟩
theorem w_398 : Cond.instanceMethod y_S_raise ∈ go_TT := go_tt 398 (by decide +kernel) rfl
theorem w_8 : Cond.selects RS y_S_raise y_S_raise ∈ go_TT := go_tt 8 (by decide +kernel) rfl
theorem w_69 : Cond.fieldLinkNest RS 231 RT "span" "I" RS ∈ go_NW := go_nw 69 (by decide +kernel) rfl
theorem fl_S_231 : go_fl RS 231 1 3 := ⟨RT, TT, 5, rfl, by decide, rfl, by decide, in_T, rfl, Or.inr ⟨_, w_69⟩⟩
theorem w_91 : Cond.fieldLinkNest RS 104 RI "latestRow" "I" RS ∈ go_NW := go_nw 91 (by decide +kernel) rfl
theorem fl_S_104 : go_fl RS 104 0 3 := ⟨RI, TI, 8, rfl, by decide, rfl, by decide, in_I, rfl, Or.inr ⟨_, w_91⟩⟩
theorem w_138 : Cond.fieldLink RS 101 RS "now" "I" ∈ go_TT := go_tt 138 (by decide +kernel) rfl
theorem fl_S_101 : go_fl RS 101 3 2 := ⟨RS, TS, 14, rfl, by decide, rfl, by decide, in_S, rfl, Or.inl w_138⟩
theorem w_389 : Cond.methodLink RS 224 y_S_act ∈ go_TT := go_tt 389 (by decide +kernel) rfl
theorem w_392 : Cond.code y_S_act c_S_act 6 (some .boolean) ∈ go_TT := go_tt 392 (by decide +kernel) rfl
theorem cw_S_224 : go_wd RS 224 y_S_act c_S_act 6 (some .boolean) 3 := ⟨w_389, w_392, w_29, by decide, by decide, by decide +kernel⟩
theorem w_391 : Cond.instanceMethod y_S_act ∈ go_TT := go_tt 391 (by decide +kernel) rfl
theorem w_7 : Cond.selects RS y_S_act y_S_act ∈ go_TT := go_tt 7 (by decide +kernel) rfl
theorem w_140 : Cond.fieldLink RS 77 RS "triggerCount" "I" ∈ go_TT := go_tt 140 (by decide +kernel) rfl
theorem fl_S_77 : go_fl RS 77 3 4 := ⟨RS, TS, 14, rfl, by decide, rfl, by decide, in_S, rfl, Or.inl w_140⟩
theorem w_411 : Cond.methodLinkNest RS 214 y_T_isFor RS ∈ go_NW := go_nw 411 (by decide +kernel) rfl
theorem w_414 : Cond.code y_T_isFor c_T_isFor 4 (some .boolean) ∈ go_TT := go_tt 414 (by decide +kernel) rfl
theorem w_30 : Cond.initialized RT ∈ go_TT := go_tt 30 (by decide +kernel) rfl
theorem cw_S_214 : Cond.methodLinkNest RS 214 y_T_isFor RS ∈ go_NW ∧ Cond.code y_T_isFor c_T_isFor 4 (some .boolean) ∈ go_TT ∧ Cond.initialized y_T_isFor.cls ∈ go_TT ∧ y_T_isFor.cls ≠ "java/lang/invoke/MethodHandle" ∧ y_T_isFor.cls ≠ "java/lang/invoke/VarHandle" ∧ (parseMethodDescriptor y_T_isFor.desc).map (fun d => d.parameters.length) = some 3 := ⟨w_411, w_414, w_30, by decide, by decide, by decide +kernel⟩
theorem w_413 : Cond.instanceMethod y_T_isFor ∈ go_TT := go_tt 413 (by decide +kernel) rfl
theorem w_10 : Cond.selects RT y_T_isFor y_T_isFor ∈ go_TT := go_tt 10 (by decide +kernel) rfl
theorem w_146 : Cond.fieldLink RS 115 RS "unitCount" "I" ∈ go_TT := go_tt 146 (by decide +kernel) rfl
theorem fl_S_115 : go_fl RS 115 3 10 := ⟨RS, TS, 14, rfl, by decide, rfl, by decide, in_S, rfl, Or.inl w_146⟩
theorem w_145 : Cond.fieldLink RS 32 RS "units" "[LSecondWaves$Unit;" ∈ go_TT := go_tt 145 (by decide +kernel) rfl
theorem fl_S_32 : go_fl RS 32 3 9 := ⟨RS, TS, 14, rfl, by decide, rfl, by decide, in_S, rfl, Or.inl w_145⟩
theorem w_456 : Cond.methodLinkNest RS 244 y_U_isFor RS ∈ go_NW := go_nw 456 (by decide +kernel) rfl
theorem w_459 : Cond.code y_U_isFor c_U_isFor 3 (some .boolean) ∈ go_TT := go_tt 459 (by decide +kernel) rfl
theorem w_32 : Cond.initialized RU ∈ go_TT := go_tt 32 (by decide +kernel) rfl
theorem cw_S_244 : Cond.methodLinkNest RS 244 y_U_isFor RS ∈ go_NW ∧ Cond.code y_U_isFor c_U_isFor 3 (some .boolean) ∈ go_TT ∧ Cond.initialized y_U_isFor.cls ∈ go_TT ∧ y_U_isFor.cls ≠ "java/lang/invoke/MethodHandle" ∧ y_U_isFor.cls ≠ "java/lang/invoke/VarHandle" ∧ (parseMethodDescriptor y_U_isFor.desc).map (fun d => d.parameters.length) = some 2 := ⟨w_456, w_459, w_32, by decide, by decide, by decide +kernel⟩
theorem w_458 : Cond.instanceMethod y_U_isFor ∈ go_TT := go_tt 458 (by decide +kernel) rfl
theorem w_14 : Cond.selects RU y_U_isFor y_U_isFor ∈ go_TT := go_tt 14 (by decide +kernel) rfl
theorem w_373 : Cond.methodLinkNest RS 121 y_U_setFree RS ∈ go_NW := go_nw 373 (by decide +kernel) rfl
theorem w_376 : Cond.code y_U_setFree c_U_setFree 1 none ∈ go_TT := go_tt 376 (by decide +kernel) rfl
theorem cw_S_121 : Cond.methodLinkNest RS 121 y_U_setFree RS ∈ go_NW ∧ Cond.code y_U_setFree c_U_setFree 1 none ∈ go_TT ∧ Cond.initialized y_U_setFree.cls ∈ go_TT ∧ y_U_setFree.cls ≠ "java/lang/invoke/MethodHandle" ∧ y_U_setFree.cls ≠ "java/lang/invoke/VarHandle" ∧ (parseMethodDescriptor y_U_setFree.desc).map (fun d => d.parameters.length) = some 0 := ⟨w_373, w_376, w_32, by decide, by decide, by decide +kernel⟩
theorem w_375 : Cond.instanceMethod y_U_setFree ∈ go_TT := go_tt 375 (by decide +kernel) rfl
theorem w_5 : Cond.selects RU y_U_setFree y_U_setFree ∈ go_TT := go_tt 5 (by decide +kernel) rfl
theorem w_467 : Cond.methodLinkNest RS 254 y_U_goesBackBefore RS ∈ go_NW := go_nw 467 (by decide +kernel) rfl
theorem w_470 : Cond.code y_U_goesBackBefore c_U_goesBackBefore 2 (some .boolean) ∈ go_TT := go_tt 470 (by decide +kernel) rfl
theorem cw_S_254 : Cond.methodLinkNest RS 254 y_U_goesBackBefore RS ∈ go_NW ∧ Cond.code y_U_goesBackBefore c_U_goesBackBefore 2 (some .boolean) ∈ go_TT ∧ Cond.initialized y_U_goesBackBefore.cls ∈ go_TT ∧ y_U_goesBackBefore.cls ≠ "java/lang/invoke/MethodHandle" ∧ y_U_goesBackBefore.cls ≠ "java/lang/invoke/VarHandle" ∧ (parseMethodDescriptor y_U_goesBackBefore.desc).map (fun d => d.parameters.length) = some 1 := ⟨w_467, w_470, w_32, by decide, by decide, by decide +kernel⟩
theorem w_469 : Cond.instanceMethod y_U_goesBackBefore ∈ go_TT := go_tt 469 (by decide +kernel) rfl
theorem w_16 : Cond.selects RU y_U_goesBackBefore y_U_goesBackBefore ∈ go_TT := go_tt 16 (by decide +kernel) rfl
theorem w_463 : Cond.methodLink RS 250 y_S_recallOne ∈ go_TT := go_tt 463 (by decide +kernel) rfl
theorem w_466 : Cond.code y_S_recallOne c_S_recallOne 5 none ∈ go_TT := go_tt 466 (by decide +kernel) rfl
theorem cw_S_250 : go_wd RS 250 y_S_recallOne c_S_recallOne 5 none 2 := ⟨w_463, w_466, w_29, by decide, by decide, by decide +kernel⟩
theorem w_465 : Cond.instanceMethod y_S_recallOne ∈ go_TT := go_tt 465 (by decide +kernel) rfl
theorem w_15 : Cond.selects RS y_S_recallOne y_S_recallOne ∈ go_TT := go_tt 15 (by decide +kernel) rfl
theorem w_452 : Cond.methodLink RS 177 y_S_unitsFor ∈ go_TT := go_tt 452 (by decide +kernel) rfl
theorem w_455 : Cond.code y_S_unitsFor c_S_unitsFor 5 (some .int) ∈ go_TT := go_tt 455 (by decide +kernel) rfl
theorem cw_S_177 : go_wd RS 177 y_S_unitsFor c_S_unitsFor 5 (some .int) 2 := ⟨w_452, w_455, w_29, by decide, by decide, by decide +kernel⟩
theorem w_454 : Cond.instanceMethod y_S_unitsFor ∈ go_TT := go_tt 454 (by decide +kernel) rfl
theorem w_13 : Cond.selects RS y_S_unitsFor y_S_unitsFor ∈ go_TT := go_tt 13 (by decide +kernel) rfl
theorem w_460 : Cond.methodLink RS 247 Lib.Math.max.name ∈ go_TT := go_tt 460 (by decide +kernel) rfl
theorem w_461 : Cond.static Lib.Math.max.name ∈ go_TT := go_tt 461 (by decide +kernel) rfl
theorem w_462 : Cond.code Lib.Math.max.name Lib.Math.max.code 2 (some .int) ∈ go_TT := go_tt 462 (by decide +kernel) rfl
theorem mw_S_247 : go_mw RS 247 Lib.Math.max.name Lib.Math.max.code := ⟨w_460, w_461, w_41, w_462⟩
theorem w_188 : Cond.methodLink RS 39 y_S_refuseUnknownStep ∈ go_TT := go_tt 188 (by decide +kernel) rfl
theorem w_190 : Cond.code y_S_refuseUnknownStep c_S_refuseUnknownStep 1 none ∈ go_TT := go_tt 190 (by decide +kernel) rfl
theorem cw_S_39 : go_wd RS 39 y_S_refuseUnknownStep c_S_refuseUnknownStep 1 none 1 := ⟨w_188, w_190, w_29, by decide, by decide, by decide +kernel⟩
theorem w_189 : Cond.static y_S_refuseUnknownStep ∈ go_TT := go_tt 189 (by decide +kernel) rfl
theorem w_260 : Cond.methodLink RS 43 y_S_refuseUnknownSkill ∈ go_TT := go_tt 260 (by decide +kernel) rfl
theorem w_262 : Cond.code y_S_refuseUnknownSkill c_S_refuseUnknownSkill 1 none ∈ go_TT := go_tt 262 (by decide +kernel) rfl
theorem cw_S_43 : go_wd RS 43 y_S_refuseUnknownSkill c_S_refuseUnknownSkill 1 none 1 := ⟨w_260, w_262, w_29, by decide, by decide, by decide +kernel⟩
theorem w_261 : Cond.static y_S_refuseUnknownSkill ∈ go_TT := go_tt 261 (by decide +kernel) rfl
theorem w_264 : Cond.methodLink RS 46 y_S_refuseOutside ∈ go_TT := go_tt 264 (by decide +kernel) rfl
theorem w_266 : Cond.code y_S_refuseOutside c_S_refuseOutside 3 none ∈ go_TT := go_tt 266 (by decide +kernel) rfl
theorem cw_S_46 : go_wd RS 46 y_S_refuseOutside c_S_refuseOutside 3 none 3 := ⟨w_264, w_266, w_29, by decide, by decide, by decide +kernel⟩
theorem w_265 : Cond.static y_S_refuseOutside ∈ go_TT := go_tt 265 (by decide +kernel) rfl
theorem w_136 : Cond.fieldLink RS 11 RS "rows" "[[I" ∈ go_TT := go_tt 136 (by decide +kernel) rfl
theorem fl_S_11 : go_fl RS 11 3 0 := ⟨RS, TS, 14, rfl, by decide, rfl, by decide, in_S, rfl, Or.inl w_136⟩
theorem w_291 : Cond.methodLink RS 50 y_S_isAnyOpenAbove ∈ go_TT := go_tt 291 (by decide +kernel) rfl
theorem w_294 : Cond.code y_S_isAnyOpenAbove c_S_isAnyOpenAbove 3 (some .boolean) ∈ go_TT := go_tt 294 (by decide +kernel) rfl
theorem cw_S_50 : go_wd RS 50 y_S_isAnyOpenAbove c_S_isAnyOpenAbove 3 (some .boolean) 1 := ⟨w_291, w_294, w_29, by decide, by decide, by decide +kernel⟩
theorem w_293 : Cond.instanceMethod y_S_isAnyOpenAbove ∈ go_TT := go_tt 293 (by decide +kernel) rfl
theorem w_1 : Cond.selects RS y_S_isAnyOpenAbove y_S_isAnyOpenAbove ∈ go_TT := go_tt 1 (by decide +kernel) rfl
theorem fp_S_61 : go_fp RS 61 3 1 .int := ⟨RS, TS, 14, tyS, rfl, by decide, rfl, by decide, in_S, rfl, Or.inl w_137, tyokS, nmS, rfl, rfl⟩
theorem w_320 : Cond.fieldLink RS 70 RS "LEAST_WHAT" "[I" ∈ go_TT := go_tt 320 (by decide +kernel) rfl
theorem w_322 : Cond.fieldLink RS 73 RS "GREATEST_WHAT" "[I" ∈ go_TT := go_tt 322 (by decide +kernel) rfl
theorem w_324 : Cond.constant RS 76 100000 ∈ go_TT := go_tt 324 (by decide +kernel) rfl
theorem fp_S_77 : go_fp RS 77 3 4 .int := ⟨RS, TS, 14, tyS, rfl, by decide, rfl, by decide, in_S, rfl, Or.inl w_140, tyokS, nmS, rfl, rfl⟩
theorem w_341 : Cond.methodLinkNest RS 85 y_T_set RS ∈ go_NW := go_nw 341 (by decide +kernel) rfl
theorem w_344 : Cond.code y_T_set c_T_set 5 none ∈ go_TT := go_tt 344 (by decide +kernel) rfl
theorem cw_S_85 : Cond.methodLinkNest RS 85 y_T_set RS ∈ go_NW ∧ Cond.code y_T_set c_T_set 5 none ∈ go_TT ∧ Cond.initialized y_T_set.cls ∈ go_TT ∧ y_T_set.cls ≠ "java/lang/invoke/MethodHandle" ∧ y_T_set.cls ≠ "java/lang/invoke/VarHandle" ∧ (parseMethodDescriptor y_T_set.desc).map (fun d => d.parameters.length) = some 4 := ⟨w_341, w_344, w_30, by decide, by decide, by decide +kernel⟩
theorem w_343 : Cond.instanceMethod y_T_set ∈ go_TT := go_tt 343 (by decide +kernel) rfl
theorem w_2 : Cond.selects RT y_T_set y_T_set ∈ go_TT := go_tt 2 (by decide +kernel) rfl
theorem w_345 : Cond.methodLink RS 89 y_S_addSilence ∈ go_TT := go_tt 345 (by decide +kernel) rfl
theorem w_348 : Cond.code y_S_addSilence c_S_addSilence 3 none ∈ go_TT := go_tt 348 (by decide +kernel) rfl
theorem cw_S_89 : go_wd RS 89 y_S_addSilence c_S_addSilence 3 none 1 := ⟨w_345, w_348, w_29, by decide, by decide, by decide +kernel⟩
theorem w_347 : Cond.instanceMethod y_S_addSilence ∈ go_TT := go_tt 347 (by decide +kernel) rfl
theorem w_3 : Cond.selects RS y_S_addSilence y_S_addSilence ∈ go_TT := go_tt 3 (by decide +kernel) rfl
theorem w_325 : Cond.classLink RS 80 "java/lang/UnsupportedOperationException" ∈ go_TT := go_tt 325 (by decide +kernel) rfl
theorem w_40 : Cond.initialized "java/lang/UnsupportedOperationException" ∈ go_TT := go_tt 40 (by decide +kernel) rfl
theorem xs_80_84_4 : go_xs 80 84 4 := ⟨w_325, w_40, by decide +kernel, by decide +kernel, by decide +kernel, by decide +kernel, by decide +kernel, by decide⟩
theorem fp_S_92 : go_fp RS 92 3 8 .int := ⟨RS, TS, 14, tyS, rfl, by decide, rfl, by decide, in_S, rfl, Or.inl w_144, tyokS, nmS, rfl, rfl⟩
theorem fp_S_97 : go_fp RS 97 0 0 .boolean := ⟨RI, TI, 8, tyI, rfl, by decide, rfl, by decide, in_I, rfl, Or.inr ⟨_, w_88⟩, tyokI, nmI, rfl, rfl⟩
theorem fp_S_104 : go_fp RS 104 0 3 .int := ⟨RI, TI, 8, tyI, rfl, by decide, rfl, by decide, in_I, rfl, Or.inr ⟨_, w_91⟩, tyokI, nmI, rfl, rfl⟩
theorem w_124 : Cond.fieldLinkNest RS 118 RU "incident" "I" RS ∈ go_NW := go_nw 124 (by decide +kernel) rfl
theorem fl_S_118 : go_fl RS 118 2 2 := ⟨RU, TU, 4, rfl, by decide, rfl, by decide, in_U, rfl, Or.inr ⟨_, w_124⟩⟩
theorem w_364 : Cond.methodLink RS 107 y_S_knownIncident ∈ go_TT := go_tt 364 (by decide +kernel) rfl
theorem w_367 : Cond.code y_S_knownIncident c_S_knownIncident 2 (some (.object "SecondWaves$Incident")) ∈ go_TT := go_tt 367 (by decide +kernel) rfl
theorem cw_S_107 : go_wd RS 107 y_S_knownIncident c_S_knownIncident 2 (some (.object "SecondWaves$Incident")) 1 := ⟨w_364, w_367, w_29, by decide, by decide, by decide +kernel⟩
theorem w_366 : Cond.instanceMethod y_S_knownIncident ∈ go_TT := go_tt 366 (by decide +kernel) rfl
theorem w_4 : Cond.selects RS y_S_knownIncident y_S_knownIncident ∈ go_TT := go_tt 4 (by decide +kernel) rfl
theorem w_369 : Cond.methodLink RS 111 y_S_refuseClosed ∈ go_TT := go_tt 369 (by decide +kernel) rfl
theorem w_371 : Cond.code y_S_refuseClosed c_S_refuseClosed 1 none ∈ go_TT := go_tt 371 (by decide +kernel) rfl
theorem cw_S_111 : go_wd RS 111 y_S_refuseClosed c_S_refuseClosed 1 none 1 := ⟨w_369, w_371, w_29, by decide, by decide, by decide +kernel⟩
theorem w_370 : Cond.static y_S_refuseClosed ∈ go_TT := go_tt 370 (by decide +kernel) rfl
theorem fp_S_101 : go_fp RS 101 3 2 .int := ⟨RS, TS, 14, tyS, rfl, by decide, rfl, by decide, in_S, rfl, Or.inl w_138, tyokS, nmS, rfl, rfl⟩
theorem w_385 : Cond.methodLink RS 125 y_S_stayedSilent ∈ go_TT := go_tt 385 (by decide +kernel) rfl
theorem w_388 : Cond.code y_S_stayedSilent c_S_stayedSilent 6 (some .int) ∈ go_TT := go_tt 388 (by decide +kernel) rfl
theorem cw_S_125 : go_wd RS 125 y_S_stayedSilent c_S_stayedSilent 6 (some .int) 2 := ⟨w_385, w_388, w_29, by decide, by decide, by decide +kernel⟩
theorem w_387 : Cond.instanceMethod y_S_stayedSilent ∈ go_TT := go_tt 387 (by decide +kernel) rfl
theorem w_6 : Cond.selects RS y_S_stayedSilent y_S_stayedSilent ∈ go_TT := go_tt 6 (by decide +kernel) rfl
theorem w_384 : Cond.constant RS 124 999999 ∈ go_TT := go_tt 384 (by decide +kernel) rfl
theorem w_415 : Cond.methodLink RS 135 y_S_happened ∈ go_TT := go_tt 415 (by decide +kernel) rfl
theorem w_418 : Cond.code y_S_happened c_S_happened 7 (some .int) ∈ go_TT := go_tt 418 (by decide +kernel) rfl
theorem cw_S_135 : go_wd RS 135 y_S_happened c_S_happened 7 (some .int) 4 := ⟨w_415, w_418, w_29, by decide, by decide, by decide +kernel⟩
theorem w_417 : Cond.instanceMethod y_S_happened ∈ go_TT := go_tt 417 (by decide +kernel) rfl
theorem w_11 : Cond.selects RS y_S_happened y_S_happened ∈ go_TT := go_tt 11 (by decide +kernel) rfl
theorem w_407 : Cond.methodLink RS 129 y_S_hasTriggerForWord ∈ go_TT := go_tt 407 (by decide +kernel) rfl
theorem w_410 : Cond.code y_S_hasTriggerForWord c_S_hasTriggerForWord 3 (some .boolean) ∈ go_TT := go_tt 410 (by decide +kernel) rfl
theorem cw_S_129 : go_wd RS 129 y_S_hasTriggerForWord c_S_hasTriggerForWord 3 (some .boolean) 1 := ⟨w_407, w_410, w_29, by decide, by decide, by decide +kernel⟩
theorem w_409 : Cond.instanceMethod y_S_hasTriggerForWord ∈ go_TT := go_tt 409 (by decide +kernel) rfl
theorem w_9 : Cond.selects RS y_S_hasTriggerForWord y_S_hasTriggerForWord ∈ go_TT := go_tt 9 (by decide +kernel) rfl
theorem w_147 : Cond.fieldLink RS 132 RS "wordsOfNoTrigger" "I" ∈ go_TT := go_tt 147 (by decide +kernel) rfl
theorem fl_S_132 : go_fl RS 132 3 11 := ⟨RS, TS, 14, rfl, by decide, rfl, by decide, in_S, rfl, Or.inl w_147⟩
theorem fp_S_132 : go_fp RS 132 3 11 .int := ⟨RS, TS, 14, tyS, rfl, by decide, rfl, by decide, in_S, rfl, Or.inl w_147, tyokS, nmS, rfl, rfl⟩
theorem w_90 : Cond.fieldLinkNest RS 139 RI "hurt" "I" RS ∈ go_NW := go_nw 90 (by decide +kernel) rfl
theorem fl_S_139 : go_fl RS 139 0 2 := ⟨RI, TI, 8, rfl, by decide, rfl, by decide, in_I, rfl, Or.inr ⟨_, w_90⟩⟩
theorem fp_S_139 : go_fp RS 139 0 2 .int := ⟨RI, TI, 8, tyI, rfl, by decide, rfl, by decide, in_I, rfl, Or.inr ⟨_, w_90⟩, tyokI, nmI, rfl, rfl⟩
theorem w_148 : Cond.fieldLink RS 154 RS "unitsRecalled" "I" ∈ go_TT := go_tt 148 (by decide +kernel) rfl
theorem fl_S_154 : go_fl RS 154 3 12 := ⟨RS, TS, 14, rfl, by decide, rfl, by decide, in_S, rfl, Or.inl w_148⟩
theorem fp_S_154 : go_fp RS 154 3 12 .int := ⟨RS, TS, 14, tyS, rfl, by decide, rfl, by decide, in_S, rfl, Or.inl w_148, tyokS, nmS, rfl, rfl⟩
theorem w_448 : Cond.methodLink RS 150 y_S_recallTooMuch ∈ go_TT := go_tt 448 (by decide +kernel) rfl
theorem w_451 : Cond.code y_S_recallTooMuch c_S_recallTooMuch 6 (some .int) ∈ go_TT := go_tt 451 (by decide +kernel) rfl
theorem cw_S_150 : go_wd RS 150 y_S_recallTooMuch c_S_recallTooMuch 6 (some .int) 3 := ⟨w_448, w_451, w_29, by decide, by decide, by decide +kernel⟩
theorem w_450 : Cond.instanceMethod y_S_recallTooMuch ∈ go_TT := go_tt 450 (by decide +kernel) rfl
theorem w_12 : Cond.selects RS y_S_recallTooMuch y_S_recallTooMuch ∈ go_TT := go_tt 12 (by decide +kernel) rfl
theorem w_94 : Cond.fieldLinkNest RS 147 RI "timesDown" "I" RS ∈ go_NW := go_nw 94 (by decide +kernel) rfl
theorem fl_S_147 : go_fl RS 147 0 6 := ⟨RI, TI, 8, rfl, by decide, rfl, by decide, in_I, rfl, Or.inr ⟨_, w_94⟩⟩
theorem fp_S_147 : go_fp RS 147 0 6 .int := ⟨RI, TI, 8, tyI, rfl, by decide, rfl, by decide, in_I, rfl, Or.inr ⟨_, w_94⟩, tyokI, nmI, rfl, rfl⟩
theorem fp_S_115 : go_fp RS 115 3 10 .int := ⟨RS, TS, 14, tyS, rfl, by decide, rfl, by decide, in_S, rfl, Or.inl w_146, tyokS, nmS, rfl, rfl⟩
theorem w_120 : Cond.fieldLinkNest RS 159 RU "skill" "I" RS ∈ go_NW := go_nw 120 (by decide +kernel) rfl
theorem fp_S_159 : go_fp RS 159 2 0 .int := ⟨RU, TU, 4, tyU, rfl, by decide, rfl, by decide, in_U, rfl, Or.inr ⟨_, w_120⟩, tyokU, nmU, rfl, rfl⟩
theorem w_486 : Cond.methodLink RS 162 y_S_knownUnit ∈ go_TT := go_tt 486 (by decide +kernel) rfl
theorem w_489 : Cond.code y_S_knownUnit c_S_knownUnit 2 (some (.object "SecondWaves$Unit")) ∈ go_TT := go_tt 489 (by decide +kernel) rfl
theorem cw_S_162 : go_wd RS 162 y_S_knownUnit c_S_knownUnit 2 (some (.object "SecondWaves$Unit")) 1 := ⟨w_486, w_489, w_29, by decide, by decide, by decide +kernel⟩
theorem w_488 : Cond.instanceMethod y_S_knownUnit ∈ go_TT := go_tt 488 (by decide +kernel) rfl
theorem w_17 : Cond.selects RS y_S_knownUnit y_S_knownUnit ∈ go_TT := go_tt 17 (by decide +kernel) rfl
theorem w_491 : Cond.constant RS 166 99999 ∈ go_TT := go_tt 491 (by decide +kernel) rfl
theorem w_122 : Cond.fieldLinkNest RS 167 RU "doing" "I" RS ∈ go_NW := go_nw 122 (by decide +kernel) rfl
theorem fl_S_167 : go_fl RS 167 2 1 := ⟨RU, TU, 4, rfl, by decide, rfl, by decide, in_U, rfl, Or.inr ⟨_, w_122⟩⟩
theorem fp_S_167 : go_fp RS 167 2 1 .int := ⟨RU, TU, 4, tyU, rfl, by decide, rfl, by decide, in_U, rfl, Or.inr ⟨_, w_122⟩, tyokU, nmU, rfl, rfl⟩
theorem fp_S_118 : go_fp RS 118 2 2 .int := ⟨RU, TU, 4, tyU, rfl, by decide, rfl, by decide, in_U, rfl, Or.inr ⟨_, w_124⟩, tyokU, nmU, rfl, rfl⟩
theorem w_126 : Cond.fieldLinkNest RS 172 RU "distance" "I" RS ∈ go_NW := go_nw 126 (by decide +kernel) rfl
theorem fp_S_172 : go_fp RS 172 2 3 .int := ⟨RU, TU, 4, tyU, rfl, by decide, rfl, by decide, in_U, rfl, Or.inr ⟨_, w_126⟩, tyokU, nmU, rfl, rfl⟩
theorem fl_S_172 : go_fl RS 172 2 3 := ⟨RU, TU, 4, rfl, by decide, rfl, by decide, in_U, rfl, Or.inr ⟨_, w_126⟩⟩
theorem w_547 : Cond.fieldLink RM 66 RM "thrown" "I" ∈ go_TT := go_tt 547 (by decide +kernel) rfl
theorem fl_M_66 : go_fl RM 66 4 0 := ⟨RM, TM, 27, rfl, by decide, rfl, by decide, in_M, rfl, Or.inl w_547⟩
theorem fp_M_66 : go_fp RM 66 4 0 .int := ⟨RM, TM, 27, tyM, rfl, by decide, rfl, by decide, in_M, rfl, Or.inl w_547, tyokM, nmM, rfl, rfl⟩
theorem w_557 : Cond.fieldLink RM 70 RM "incidents" "I" ∈ go_TT := go_tt 557 (by decide +kernel) rfl
theorem fl_M_70 : go_fl RM 70 4 10 := ⟨RM, TM, 27, rfl, by decide, rfl, by decide, in_M, rfl, Or.inl w_557⟩
theorem w_638 : Cond.methodLink RM 73 y_M_in ∈ go_TT := go_tt 638 (by decide +kernel) rfl
theorem w_640 : Cond.code y_M_in c_M_in 3 (some .boolean) ∈ go_TT := go_tt 640 (by decide +kernel) rfl
theorem w_33 : Cond.initialized RM ∈ go_TT := go_tt 33 (by decide +kernel) rfl
theorem cw_M_73 : go_wd RM 73 y_M_in c_M_in 3 (some .boolean) 3 := ⟨w_638, w_640, w_33, by decide, by decide, by decide +kernel⟩
theorem w_639 : Cond.static y_M_in ∈ go_TT := go_tt 639 (by decide +kernel) rfl
theorem w_662 : Cond.methodLink RM 77 y_M_isIncident ∈ go_TT := go_tt 662 (by decide +kernel) rfl
theorem w_665 : Cond.code y_M_isIncident c_M_isIncident 2 (some .boolean) ∈ go_TT := go_tt 665 (by decide +kernel) rfl
theorem cw_M_77 : go_wd RM 77 y_M_isIncident c_M_isIncident 2 (some .boolean) 1 := ⟨w_662, w_665, w_33, by decide, by decide, by decide +kernel⟩
theorem w_664 : Cond.instanceMethod y_M_isIncident ∈ go_TT := go_tt 664 (by decide +kernel) rfl
theorem w_19 : Cond.selects RM y_M_isIncident y_M_isIncident ∈ go_TT := go_tt 19 (by decide +kernel) rfl
theorem w_558 : Cond.fieldLink RM 28 RM "open" "[Z" ∈ go_TT := go_tt 558 (by decide +kernel) rfl
theorem fl_M_28 : go_fl RM 28 4 11 := ⟨RM, TM, 27, rfl, by decide, rfl, by decide, in_M, rfl, Or.inl w_558⟩
theorem w_566 : Cond.fieldLink RM 81 RM "units" "I" ∈ go_TT := go_tt 566 (by decide +kernel) rfl
theorem fl_M_81 : go_fl RM 81 4 19 := ⟨RM, TM, 27, rfl, by decide, rfl, by decide, in_M, rfl, Or.inl w_566⟩
theorem w_641 : Cond.methodLink RM 84 y_M_throwing ∈ go_TT := go_tt 641 (by decide +kernel) rfl
theorem w_644 : Cond.code y_M_throwing c_M_throwing 4 (some .boolean) ∈ go_TT := go_tt 644 (by decide +kernel) rfl
theorem cw_M_84 : go_wd RM 84 y_M_throwing c_M_throwing 4 (some .boolean) 3 := ⟨w_641, w_644, w_33, by decide, by decide, by decide +kernel⟩
theorem w_643 : Cond.instanceMethod y_M_throwing ∈ go_TT := go_tt 643 (by decide +kernel) rfl
theorem w_18 : Cond.selects RM y_M_throwing y_M_throwing ∈ go_TT := go_tt 18 (by decide +kernel) rfl
theorem w_550 : Cond.fieldLink RM 7 RM "rows" "[I" ∈ go_TT := go_tt 550 (by decide +kernel) rfl
theorem fl_M_7 : go_fl RM 7 4 3 := ⟨RM, TM, 27, rfl, by decide, rfl, by decide, in_M, rfl, Or.inl w_550⟩
theorem w_549 : Cond.fieldLink RM 88 RM "top" "I" ∈ go_TT := go_tt 549 (by decide +kernel) rfl
theorem fp_M_88 : go_fp RM 88 4 2 .int := ⟨RM, TM, 27, tyM, rfl, by decide, rfl, by decide, in_M, rfl, Or.inl w_549, tyokM, nmM, rfl, rfl⟩
theorem w_559 : Cond.fieldLink RM 32 RM "step" "[I" ∈ go_TT := go_tt 559 (by decide +kernel) rfl
theorem fl_M_32 : go_fl RM 32 4 12 := ⟨RM, TM, 27, rfl, by decide, rfl, by decide, in_M, rfl, Or.inl w_559⟩
theorem w_552 : Cond.fieldLink RM 13 RM "kind" "[I" ∈ go_TT := go_tt 552 (by decide +kernel) rfl
theorem fl_M_13 : go_fl RM 13 4 5 := ⟨RM, TM, 27, rfl, by decide, rfl, by decide, in_M, rfl, Or.inl w_552⟩
theorem w_551 : Cond.fieldLink RM 92 RM "triggers" "I" ∈ go_TT := go_tt 551 (by decide +kernel) rfl
theorem fl_M_92 : go_fl RM 92 4 4 := ⟨RM, TM, 27, rfl, by decide, rfl, by decide, in_M, rfl, Or.inl w_551⟩
theorem w_553 : Cond.fieldLink RM 16 RM "what" "[I" ∈ go_TT := go_tt 553 (by decide +kernel) rfl
theorem fl_M_16 : go_fl RM 16 4 6 := ⟨RM, TM, 27, rfl, by decide, rfl, by decide, in_M, rfl, Or.inl w_553⟩
theorem w_554 : Cond.fieldLink RM 19 RM "to" "[I" ∈ go_TT := go_tt 554 (by decide +kernel) rfl
theorem fl_M_19 : go_fl RM 19 4 7 := ⟨RM, TM, 27, rfl, by decide, rfl, by decide, in_M, rfl, Or.inl w_554⟩
theorem w_555 : Cond.fieldLink RM 22 RM "span" "[I" ∈ go_TT := go_tt 555 (by decide +kernel) rfl
theorem fl_M_22 : go_fl RM 22 4 8 := ⟨RM, TM, 27, rfl, by decide, rfl, by decide, in_M, rfl, Or.inl w_555⟩
theorem fp_M_92 : go_fp RM 92 4 4 .int := ⟨RM, TM, 27, tyM, rfl, by decide, rfl, by decide, in_M, rfl, Or.inl w_551, tyokM, nmM, rfl, rfl⟩
theorem w_653 : Cond.constant RM 91 100000 ∈ go_TT := go_tt 653 (by decide +kernel) rfl
theorem w_561 : Cond.fieldLink RM 38 RM "told" "[I" ∈ go_TT := go_tt 561 (by decide +kernel) rfl
theorem fl_M_38 : go_fl RM 38 4 14 := ⟨RM, TM, 27, rfl, by decide, rfl, by decide, in_M, rfl, Or.inl w_561⟩
theorem w_548 : Cond.fieldLink RM 95 RM "now" "I" ∈ go_TT := go_tt 548 (by decide +kernel) rfl
theorem fl_M_95 : go_fl RM 95 4 1 := ⟨RM, TM, 27, rfl, by decide, rfl, by decide, in_M, rfl, Or.inl w_548⟩
theorem fp_M_70 : go_fp RM 70 4 10 .int := ⟨RM, TM, 27, tyM, rfl, by decide, rfl, by decide, in_M, rfl, Or.inl w_557, tyokM, nmM, rfl, rfl⟩
theorem w_568 : Cond.fieldLink RM 56 RM "does" "[I" ∈ go_TT := go_tt 568 (by decide +kernel) rfl
theorem fl_M_56 : go_fl RM 56 4 21 := ⟨RM, TM, 27, rfl, by decide, rfl, by decide, in_M, rfl, Or.inl w_568⟩
theorem w_569 : Cond.fieldLink RM 59 RM "at" "[I" ∈ go_TT := go_tt 569 (by decide +kernel) rfl
theorem fl_M_59 : go_fl RM 59 4 22 := ⟨RM, TM, 27, rfl, by decide, rfl, by decide, in_M, rfl, Or.inl w_569⟩
theorem w_570 : Cond.fieldLink RM 62 RM "distance" "[I" ∈ go_TT := go_tt 570 (by decide +kernel) rfl
theorem fl_M_62 : go_fl RM 62 4 23 := ⟨RM, TM, 27, rfl, by decide, rfl, by decide, in_M, rfl, Or.inl w_570⟩
theorem w_670 : Cond.methodLink RM 101 y_M_isWith ∈ go_TT := go_tt 670 (by decide +kernel) rfl
theorem w_673 : Cond.code y_M_isWith c_M_isWith 3 (some .boolean) ∈ go_TT := go_tt 673 (by decide +kernel) rfl
theorem cw_M_101 : go_wd RM 101 y_M_isWith c_M_isWith 3 (some .boolean) 2 := ⟨w_670, w_673, w_33, by decide, by decide, by decide +kernel⟩
theorem w_672 : Cond.instanceMethod y_M_isWith ∈ go_TT := go_tt 672 (by decide +kernel) rfl
theorem w_21 : Cond.selects RM y_M_isWith y_M_isWith ∈ go_TT := go_tt 21 (by decide +kernel) rfl
theorem w_674 : Cond.methodLink RM 105 y_M_free ∈ go_TT := go_tt 674 (by decide +kernel) rfl
theorem w_677 : Cond.code y_M_free c_M_free 2 none ∈ go_TT := go_tt 677 (by decide +kernel) rfl
theorem cw_M_105 : go_wd RM 105 y_M_free c_M_free 2 none 1 := ⟨w_674, w_677, w_33, by decide, by decide, by decide +kernel⟩
theorem w_676 : Cond.instanceMethod y_M_free ∈ go_TT := go_tt 676 (by decide +kernel) rfl
theorem w_22 : Cond.selects RM y_M_free y_M_free ∈ go_TT := go_tt 22 (by decide +kernel) rfl
theorem w_666 : Cond.methodLink RM 98 y_M_isClosed ∈ go_TT := go_tt 666 (by decide +kernel) rfl
theorem w_669 : Cond.code y_M_isClosed c_M_isClosed 2 (some .boolean) ∈ go_TT := go_tt 669 (by decide +kernel) rfl
theorem cw_M_98 : go_wd RM 98 y_M_isClosed c_M_isClosed 2 (some .boolean) 1 := ⟨w_666, w_669, w_33, by decide, by decide, by decide +kernel⟩
theorem w_668 : Cond.instanceMethod y_M_isClosed ∈ go_TT := go_tt 668 (by decide +kernel) rfl
theorem w_20 : Cond.selects RM y_M_isClosed y_M_isClosed ∈ go_TT := go_tt 20 (by decide +kernel) rfl
theorem w_573 : Cond.fieldLink RM 109 RM "idle" "I" ∈ go_TT := go_tt 573 (by decide +kernel) rfl
theorem fl_M_109 : go_fl RM 109 4 26 := ⟨RM, TM, 27, rfl, by decide, rfl, by decide, in_M, rfl, Or.inl w_573⟩
theorem fp_M_109 : go_fp RM 109 4 26 .int := ⟨RM, TM, 27, tyM, rfl, by decide, rfl, by decide, in_M, rfl, Or.inl w_573, tyokM, nmM, rfl, rfl⟩
theorem w_563 : Cond.fieldLink RM 44 RM "ups" "[I" ∈ go_TT := go_tt 563 (by decide +kernel) rfl
theorem fl_M_44 : go_fl RM 44 4 16 := ⟨RM, TM, 27, rfl, by decide, rfl, by decide, in_M, rfl, Or.inl w_563⟩
theorem w_565 : Cond.fieldLink RM 50 RM "last" "[I" ∈ go_TT := go_tt 565 (by decide +kernel) rfl
theorem fl_M_50 : go_fl RM 50 4 18 := ⟨RM, TM, 27, rfl, by decide, rfl, by decide, in_M, rfl, Or.inl w_565⟩
theorem w_556 : Cond.fieldLink RM 25 RM "acts" "[I" ∈ go_TT := go_tt 556 (by decide +kernel) rfl
theorem fl_M_25 : go_fl RM 25 4 9 := ⟨RM, TM, 27, rfl, by decide, rfl, by decide, in_M, rfl, Or.inl w_556⟩
theorem w_562 : Cond.fieldLink RM 41 RM "actedAt" "[I" ∈ go_TT := go_tt 562 (by decide +kernel) rfl
theorem fl_M_41 : go_fl RM 41 4 15 := ⟨RM, TM, 27, rfl, by decide, rfl, by decide, in_M, rfl, Or.inl w_562⟩
theorem fl_M_88 : go_fl RM 88 4 2 := ⟨RM, TM, 27, rfl, by decide, rfl, by decide, in_M, rfl, Or.inl w_549⟩
theorem w_687 : Cond.methodLink RM 112 y_M_act ∈ go_TT := go_tt 687 (by decide +kernel) rfl
theorem w_690 : Cond.code y_M_act c_M_act 4 (some .int) ∈ go_TT := go_tt 690 (by decide +kernel) rfl
theorem cw_M_112 : go_wd RM 112 y_M_act c_M_act 4 (some .int) 2 := ⟨w_687, w_690, w_33, by decide, by decide, by decide +kernel⟩
theorem w_689 : Cond.instanceMethod y_M_act ∈ go_TT := go_tt 689 (by decide +kernel) rfl
theorem w_24 : Cond.selects RM y_M_act y_M_act ∈ go_TT := go_tt 24 (by decide +kernel) rfl
theorem w_683 : Cond.methodLink RM 117 y_M_all ∈ go_TT := go_tt 683 (by decide +kernel) rfl
theorem w_686 : Cond.code y_M_all c_M_all 6 (some .int) ∈ go_TT := go_tt 686 (by decide +kernel) rfl
theorem cw_M_117 : go_wd RM 117 y_M_all c_M_all 6 (some .int) 3 := ⟨w_683, w_686, w_33, by decide, by decide, by decide +kernel⟩
theorem w_685 : Cond.instanceMethod y_M_all ∈ go_TT := go_tt 685 (by decide +kernel) rfl
theorem w_23 : Cond.selects RM y_M_all y_M_all ∈ go_TT := go_tt 23 (by decide +kernel) rfl
theorem fp_M_95 : go_fp RM 95 4 1 .int := ⟨RM, TM, 27, tyM, rfl, by decide, rfl, by decide, in_M, rfl, Or.inl w_548, tyokM, nmM, rfl, rfl⟩
theorem w_682 : Cond.constant RM 116 999999 ∈ go_TT := go_tt 682 (by decide +kernel) rfl
theorem w_571 : Cond.fieldLink RM 121 RM "words" "I" ∈ go_TT := go_tt 571 (by decide +kernel) rfl
theorem fp_M_121 : go_fp RM 121 4 24 .int := ⟨RM, TM, 27, tyM, rfl, by decide, rfl, by decide, in_M, rfl, Or.inl w_571, tyokM, nmM, rfl, rfl⟩
theorem fl_M_121 : go_fl RM 121 4 24 := ⟨RM, TM, 27, rfl, by decide, rfl, by decide, in_M, rfl, Or.inl w_571⟩
theorem w_560 : Cond.fieldLink RM 35 RM "hurt" "[I" ∈ go_TT := go_tt 560 (by decide +kernel) rfl
theorem fl_M_35 : go_fl RM 35 4 13 := ⟨RM, TM, 27, rfl, by decide, rfl, by decide, in_M, rfl, Or.inl w_560⟩
theorem w_567 : Cond.fieldLink RM 53 RM "skill" "[I" ∈ go_TT := go_tt 567 (by decide +kernel) rfl
theorem fl_M_53 : go_fl RM 53 4 20 := ⟨RM, TM, 27, rfl, by decide, rfl, by decide, in_M, rfl, Or.inl w_567⟩
theorem w_715 : Cond.methodLink RM 127 y_M_goesAhead ∈ go_TT := go_tt 715 (by decide +kernel) rfl
theorem w_718 : Cond.code y_M_goesAhead c_M_goesAhead 3 (some .boolean) ∈ go_TT := go_tt 718 (by decide +kernel) rfl
theorem cw_M_127 : go_wd RM 127 y_M_goesAhead c_M_goesAhead 3 (some .boolean) 2 := ⟨w_715, w_718, w_33, by decide, by decide, by decide +kernel⟩
theorem w_717 : Cond.instanceMethod y_M_goesAhead ∈ go_TT := go_tt 717 (by decide +kernel) rfl
theorem w_26 : Cond.selects RM y_M_goesAhead y_M_goesAhead ∈ go_TT := go_tt 26 (by decide +kernel) rfl
theorem w_711 : Cond.methodLink RM 124 y_M_withSkill ∈ go_TT := go_tt 711 (by decide +kernel) rfl
theorem w_714 : Cond.code y_M_withSkill c_M_withSkill 5 (some .int) ∈ go_TT := go_tt 714 (by decide +kernel) rfl
theorem cw_M_124 : go_wd RM 124 y_M_withSkill c_M_withSkill 5 (some .int) 2 := ⟨w_711, w_714, w_33, by decide, by decide, by decide +kernel⟩
theorem w_713 : Cond.instanceMethod y_M_withSkill ∈ go_TT := go_tt 713 (by decide +kernel) rfl
theorem w_25 : Cond.selects RM y_M_withSkill y_M_withSkill ∈ go_TT := go_tt 25 (by decide +kernel) rfl
theorem w_572 : Cond.fieldLink RM 130 RM "recalled" "I" ∈ go_TT := go_tt 572 (by decide +kernel) rfl
theorem fl_M_130 : go_fl RM 130 4 25 := ⟨RM, TM, 27, rfl, by decide, rfl, by decide, in_M, rfl, Or.inl w_572⟩
theorem fp_M_130 : go_fp RM 130 4 25 .int := ⟨RM, TM, 27, tyM, rfl, by decide, rfl, by decide, in_M, rfl, Or.inl w_572, tyokM, nmM, rfl, rfl⟩
theorem w_564 : Cond.fieldLink RM 47 RM "downs" "[I" ∈ go_TT := go_tt 564 (by decide +kernel) rfl
theorem fl_M_47 : go_fl RM 47 4 17 := ⟨RM, TM, 27, rfl, by decide, rfl, by decide, in_M, rfl, Or.inl w_564⟩
theorem fp_M_81 : go_fp RM 81 4 19 .int := ⟨RM, TM, 27, tyM, rfl, by decide, rfl, by decide, in_M, rfl, Or.inl w_566, tyokM, nmM, rfl, rfl⟩
theorem w_731 : Cond.constant RM 136 99999 ∈ go_TT := go_tt 731 (by decide +kernel) rfl
theorem w_727 : Cond.methodLink RM 133 y_M_isUnit ∈ go_TT := go_tt 727 (by decide +kernel) rfl
theorem w_730 : Cond.code y_M_isUnit c_M_isUnit 2 (some .boolean) ∈ go_TT := go_tt 730 (by decide +kernel) rfl
theorem cw_M_133 : go_wd RM 133 y_M_isUnit c_M_isUnit 2 (some .boolean) 1 := ⟨w_727, w_730, w_33, by decide, by decide, by decide +kernel⟩
theorem w_729 : Cond.instanceMethod y_M_isUnit ∈ go_TT := go_tt 729 (by decide +kernel) rfl
theorem w_27 : Cond.selects RM y_M_isUnit y_M_isUnit ∈ go_TT := go_tt 27 (by decide +kernel) rfl
theorem w_184 : Cond.methodLink RL 7 y_S_row ∈ go_TT := go_tt 184 (by decide +kernel) rfl
theorem w_187 : Cond.code y_S_row c_S_row 4 none ∈ go_TT := go_tt 187 (by decide +kernel) rfl
theorem cw_L_7 : go_wd RL 7 y_S_row c_S_row 4 none 3 := ⟨w_184, w_187, w_29, by decide, by decide, by decide +kernel⟩
theorem w_185 : Cond.instanceMethod y_S_row ∈ go_TT := go_tt 185 (by decide +kernel) rfl
theorem w_186 : Cond.selects RS y_S_row y_S_row ∈ go_TT := go_tt 186 (by decide +kernel) rfl
theorem w_182 : Cond.classLink RL 13 "java/lang/IllegalArgumentException" ∈ go_TT := go_tt 182 (by decide +kernel) rfl
theorem w_193 : Cond.castable "java/lang/IllegalArgumentException" "java/lang/IllegalArgumentException" ∈ go_NW := go_nw 193 (by decide +kernel) rfl
theorem w_183 : Cond.classLink RL 15 "java/lang/IndexOutOfBoundsException" ∈ go_TT := go_tt 183 (by decide +kernel) rfl
theorem w_269 : Cond.castable "java/lang/IndexOutOfBoundsException" "java/lang/IndexOutOfBoundsException" ∈ go_NW := go_nw 269 (by decide +kernel) rfl
theorem w_287 : Cond.methodLink RL 17 y_S_top ∈ go_TT := go_tt 287 (by decide +kernel) rfl
theorem w_290 : Cond.code y_S_top c_S_top 2 none ∈ go_TT := go_tt 290 (by decide +kernel) rfl
theorem cw_L_17 : go_wd RL 17 y_S_top c_S_top 2 none 1 := ⟨w_287, w_290, w_29, by decide, by decide, by decide +kernel⟩
theorem w_288 : Cond.instanceMethod y_S_top ∈ go_TT := go_tt 288 (by decide +kernel) rfl
theorem w_289 : Cond.selects RS y_S_top y_S_top ∈ go_TT := go_tt 289 (by decide +kernel) rfl
theorem w_286 : Cond.classLink RL 21 "java/lang/IllegalStateException" ∈ go_TT := go_tt 286 (by decide +kernel) rfl
theorem w_297 : Cond.castable "java/lang/IllegalStateException" "java/lang/IllegalStateException" ∈ go_NW := go_nw 297 (by decide +kernel) rfl
theorem w_315 : Cond.methodLink RL 23 y_S_trigger ∈ go_TT := go_tt 315 (by decide +kernel) rfl
theorem w_318 : Cond.code y_S_trigger c_S_trigger 6 (some .int) ∈ go_TT := go_tt 318 (by decide +kernel) rfl
theorem cw_L_23 : go_wd RL 23 y_S_trigger c_S_trigger 6 (some .int) 4 := ⟨w_315, w_318, w_29, by decide, by decide, by decide +kernel⟩
theorem w_316 : Cond.instanceMethod y_S_trigger ∈ go_TT := go_tt 316 (by decide +kernel) rfl
theorem w_317 : Cond.selects RS y_S_trigger y_S_trigger ∈ go_TT := go_tt 317 (by decide +kernel) rfl
theorem w_314 : Cond.classLink RL 27 "java/lang/UnsupportedOperationException" ∈ go_TT := go_tt 314 (by decide +kernel) rfl
theorem w_327 : Cond.castable "java/lang/UnsupportedOperationException" "java/lang/UnsupportedOperationException" ∈ go_NW := go_nw 327 (by decide +kernel) rfl
theorem w_352 : Cond.methodLink RL 29 y_S_begin ∈ go_TT := go_tt 352 (by decide +kernel) rfl
theorem w_355 : Cond.code y_S_begin c_S_begin 2 (some .int) ∈ go_TT := go_tt 355 (by decide +kernel) rfl
theorem cw_L_29 : go_wd RL 29 y_S_begin c_S_begin 2 (some .int) 0 := ⟨w_352, w_355, w_29, by decide, by decide, by decide +kernel⟩
theorem w_353 : Cond.instanceMethod y_S_begin ∈ go_TT := go_tt 353 (by decide +kernel) rfl
theorem w_354 : Cond.selects RS y_S_begin y_S_begin ∈ go_TT := go_tt 354 (by decide +kernel) rfl
theorem w_360 : Cond.methodLink RL 33 y_S_close ∈ go_TT := go_tt 360 (by decide +kernel) rfl
theorem w_363 : Cond.code y_S_close c_S_close 4 none ∈ go_TT := go_tt 363 (by decide +kernel) rfl
theorem cw_L_33 : go_wd RL 33 y_S_close c_S_close 4 none 1 := ⟨w_360, w_363, w_29, by decide, by decide, by decide +kernel⟩
theorem w_361 : Cond.instanceMethod y_S_close ∈ go_TT := go_tt 361 (by decide +kernel) rfl
theorem w_362 : Cond.selects RS y_S_close y_S_close ∈ go_TT := go_tt 362 (by decide +kernel) rfl
theorem w_380 : Cond.methodLink RL 36 y_S_tick ∈ go_TT := go_tt 380 (by decide +kernel) rfl
theorem w_383 : Cond.code y_S_tick c_S_tick 5 (some .int) ∈ go_TT := go_tt 383 (by decide +kernel) rfl
theorem cw_L_36 : go_wd RL 36 y_S_tick c_S_tick 5 (some .int) 1 := ⟨w_380, w_383, w_29, by decide, by decide, by decide +kernel⟩
theorem w_381 : Cond.instanceMethod y_S_tick ∈ go_TT := go_tt 381 (by decide +kernel) rfl
theorem w_382 : Cond.selects RS y_S_tick y_S_tick ∈ go_TT := go_tt 382 (by decide +kernel) rfl
theorem w_403 : Cond.methodLink RL 40 y_S_word ∈ go_TT := go_tt 403 (by decide +kernel) rfl
theorem w_406 : Cond.code y_S_word c_S_word 4 (some .int) ∈ go_TT := go_tt 406 (by decide +kernel) rfl
theorem cw_L_40 : go_wd RL 40 y_S_word c_S_word 4 (some .int) 2 := ⟨w_403, w_406, w_29, by decide, by decide, by decide +kernel⟩
theorem w_404 : Cond.instanceMethod y_S_word ∈ go_TT := go_tt 404 (by decide +kernel) rfl
theorem w_405 : Cond.selects RS y_S_word y_S_word ∈ go_TT := go_tt 405 (by decide +kernel) rfl
theorem w_422 : Cond.methodLink RL 44 y_S_hurt ∈ go_TT := go_tt 422 (by decide +kernel) rfl
theorem w_425 : Cond.code y_S_hurt c_S_hurt 5 (some .int) ∈ go_TT := go_tt 425 (by decide +kernel) rfl
theorem cw_L_44 : go_wd RL 44 y_S_hurt c_S_hurt 5 (some .int) 2 := ⟨w_422, w_425, w_29, by decide, by decide, by decide +kernel⟩
theorem w_423 : Cond.instanceMethod y_S_hurt ∈ go_TT := go_tt 423 (by decide +kernel) rfl
theorem w_424 : Cond.selects RS y_S_hurt y_S_hurt ∈ go_TT := go_tt 424 (by decide +kernel) rfl
theorem w_429 : Cond.methodLink RL 47 y_S_ask ∈ go_TT := go_tt 429 (by decide +kernel) rfl
theorem w_432 : Cond.code y_S_ask c_S_ask 4 (some .int) ∈ go_TT := go_tt 432 (by decide +kernel) rfl
theorem cw_L_47 : go_wd RL 47 y_S_ask c_S_ask 4 (some .int) 2 := ⟨w_429, w_432, w_29, by decide, by decide, by decide +kernel⟩
theorem w_430 : Cond.instanceMethod y_S_ask ∈ go_TT := go_tt 430 (by decide +kernel) rfl
theorem w_431 : Cond.selects RS y_S_ask y_S_ask ∈ go_TT := go_tt 431 (by decide +kernel) rfl
theorem w_436 : Cond.methodLink RL 50 y_S_tell ∈ go_TT := go_tt 436 (by decide +kernel) rfl
theorem w_439 : Cond.code y_S_tell c_S_tell 3 none ∈ go_TT := go_tt 439 (by decide +kernel) rfl
theorem cw_L_50 : go_wd RL 50 y_S_tell c_S_tell 3 none 1 := ⟨w_436, w_439, w_29, by decide, by decide, by decide +kernel⟩
theorem w_437 : Cond.instanceMethod y_S_tell ∈ go_TT := go_tt 437 (by decide +kernel) rfl
theorem w_438 : Cond.selects RS y_S_tell y_S_tell ∈ go_TT := go_tt 438 (by decide +kernel) rfl
theorem w_443 : Cond.methodLink RL 53 y_S_calm ∈ go_TT := go_tt 443 (by decide +kernel) rfl
theorem w_446 : Cond.code y_S_calm c_S_calm 6 (some .int) ∈ go_TT := go_tt 446 (by decide +kernel) rfl
theorem cw_L_53 : go_wd RL 53 y_S_calm c_S_calm 6 (some .int) 2 := ⟨w_443, w_446, w_29, by decide, by decide, by decide +kernel⟩
theorem w_444 : Cond.instanceMethod y_S_calm ∈ go_TT := go_tt 444 (by decide +kernel) rfl
theorem w_445 : Cond.selects RS y_S_calm y_S_calm ∈ go_TT := go_tt 445 (by decide +kernel) rfl
theorem w_474 : Cond.methodLink RL 56 y_S_unit ∈ go_TT := go_tt 474 (by decide +kernel) rfl
theorem w_477 : Cond.code y_S_unit c_S_unit 3 (some .int) ∈ go_TT := go_tt 477 (by decide +kernel) rfl
theorem cw_L_56 : go_wd RL 56 y_S_unit c_S_unit 3 (some .int) 1 := ⟨w_474, w_477, w_29, by decide, by decide, by decide +kernel⟩
theorem w_475 : Cond.instanceMethod y_S_unit ∈ go_TT := go_tt 475 (by decide +kernel) rfl
theorem w_476 : Cond.selects RS y_S_unit y_S_unit ∈ go_TT := go_tt 476 (by decide +kernel) rfl
theorem w_482 : Cond.methodLink RL 59 y_S_go ∈ go_TT := go_tt 482 (by decide +kernel) rfl
theorem w_485 : Cond.code y_S_go c_S_go 6 none ∈ go_TT := go_tt 485 (by decide +kernel) rfl
theorem cw_L_59 : go_wd RL 59 y_S_go c_S_go 6 none 3 := ⟨w_482, w_485, w_29, by decide, by decide, by decide +kernel⟩
theorem w_483 : Cond.instanceMethod y_S_go ∈ go_TT := go_tt 483 (by decide +kernel) rfl
theorem w_484 : Cond.selects RS y_S_go y_S_go ∈ go_TT := go_tt 484 (by decide +kernel) rfl
theorem w_496 : Cond.methodLink RL 62 y_S_arrive ∈ go_TT := go_tt 496 (by decide +kernel) rfl
theorem w_499 : Cond.code y_S_arrive c_S_arrive 3 none ∈ go_TT := go_tt 499 (by decide +kernel) rfl
theorem cw_L_62 : go_wd RL 62 y_S_arrive c_S_arrive 3 none 1 := ⟨w_496, w_499, w_29, by decide, by decide, by decide +kernel⟩
theorem w_497 : Cond.instanceMethod y_S_arrive ∈ go_TT := go_tt 497 (by decide +kernel) rfl
theorem w_498 : Cond.selects RS y_S_arrive y_S_arrive ∈ go_TT := go_tt 498 (by decide +kernel) rfl
theorem w_504 : Cond.methodLink RL 65 y_S_needed ∈ go_TT := go_tt 504 (by decide +kernel) rfl
theorem w_507 : Cond.code y_S_needed c_S_needed 4 (some .int) ∈ go_TT := go_tt 507 (by decide +kernel) rfl
theorem cw_L_65 : go_wd RL 65 y_S_needed c_S_needed 4 (some .int) 2 := ⟨w_504, w_507, w_29, by decide, by decide, by decide +kernel⟩
theorem w_505 : Cond.instanceMethod y_S_needed ∈ go_TT := go_tt 505 (by decide +kernel) rfl
theorem w_506 : Cond.selects RS y_S_needed y_S_needed ∈ go_TT := go_tt 506 (by decide +kernel) rfl
theorem w_511 : Cond.methodLink RL 68 y_S_incident ∈ go_TT := go_tt 511 (by decide +kernel) rfl
theorem w_514 : Cond.code y_S_incident c_S_incident 4 (some .int) ∈ go_TT := go_tt 514 (by decide +kernel) rfl
theorem cw_L_68 : go_wd RL 68 y_S_incident c_S_incident 4 (some .int) 2 := ⟨w_511, w_514, w_29, by decide, by decide, by decide +kernel⟩
theorem w_512 : Cond.instanceMethod y_S_incident ∈ go_TT := go_tt 512 (by decide +kernel) rfl
theorem w_513 : Cond.selects RS y_S_incident y_S_incident ∈ go_TT := go_tt 513 (by decide +kernel) rfl
theorem w_519 : Cond.methodLink RL 71 y_S_unitAt ∈ go_TT := go_tt 519 (by decide +kernel) rfl
theorem w_522 : Cond.code y_S_unitAt c_S_unitAt 4 (some .int) ∈ go_TT := go_tt 522 (by decide +kernel) rfl
theorem cw_L_71 : go_wd RL 71 y_S_unitAt c_S_unitAt 4 (some .int) 2 := ⟨w_519, w_522, w_29, by decide, by decide, by decide +kernel⟩
theorem w_520 : Cond.instanceMethod y_S_unitAt ∈ go_TT := go_tt 520 (by decide +kernel) rfl
theorem w_521 : Cond.selects RS y_S_unitAt y_S_unitAt ∈ go_TT := go_tt 521 (by decide +kernel) rfl
theorem w_527 : Cond.methodLink RL 74 y_S_acted ∈ go_TT := go_tt 527 (by decide +kernel) rfl
theorem w_530 : Cond.code y_S_acted c_S_acted 2 (some .int) ∈ go_TT := go_tt 530 (by decide +kernel) rfl
theorem cw_L_74 : go_wd RL 74 y_S_acted c_S_acted 2 (some .int) 1 := ⟨w_527, w_530, w_29, by decide, by decide, by decide +kernel⟩
theorem w_528 : Cond.instanceMethod y_S_acted ∈ go_TT := go_tt 528 (by decide +kernel) rfl
theorem w_529 : Cond.selects RS y_S_acted y_S_acted ∈ go_TT := go_tt 529 (by decide +kernel) rfl
theorem w_535 : Cond.methodLink RL 77 y_S_count ∈ go_TT := go_tt 535 (by decide +kernel) rfl
theorem w_538 : Cond.code y_S_count c_S_count 2 (some .int) ∈ go_TT := go_tt 538 (by decide +kernel) rfl
theorem cw_L_77 : go_wd RL 77 y_S_count c_S_count 2 (some .int) 1 := ⟨w_535, w_538, w_29, by decide, by decide, by decide +kernel⟩
theorem w_536 : Cond.instanceMethod y_S_count ∈ go_TT := go_tt 536 (by decide +kernel) rfl
theorem w_537 : Cond.selects RS y_S_count y_S_count ∈ go_TT := go_tt 537 (by decide +kernel) rfl
end
section
/-! read back by wip/whole/dec.py: a function a method, and the rows that tie them -/
abbrev M_T_set : go_M := (c_T_set, 5, none, RT, [], rmD 0 0)
def f_T_set (k0 : Nat) (x1 : Int32) (x2 : Int32) (x3 : Int32) (x4 : Int32) (v : go_V) : Option go_R := gd (Nat.beq (go_cls (k0)) 1) (ln (u2 v (k0) 0 x1) (fun v_2 => ln (u2 v_2 (k0) 1 x2) (fun v_3 => ln (u2 v_3 (k0) 2 x3) (fun v_4 => ln (u2 v_4 (k0) 3 x4) (fun v_5 => some (0, 0, 0, v_5))))))
set_option maxHeartbeats 4000000 in
set_option maxRecDepth 100000 in
theorem Ca_T_set {l : Launch} {G : go_G} {ad : Nat → Nat} (hl : l.stackTraces = false) {r : go_R} {k0 : Nat} {x1 : Int32} {x2 : Int32} {x3 : Int32} {x4 : Int32} {v : go_V} (h : f_T_set k0 x1 x2 x3 x4 v = some r) : Ca l G y_T_set (.code y_T_set c_T_set 5 none :: go_TT) (rmD 0 0) 0 ad [.ref (ad (k0)), .int x1, .int x2, .int x3, .int x4] v r := by
  unfold f_T_set at h
  refine go_body (own := RT) (by decide) rfl (Nat.le_of_ble_eq_true rfl) ?_
  show Go l G M_T_set go_Ex0 (go_E G ad 0 r 0 0) ad v [(0, .ref (ad (k0))), (1, .int x1), (2, .int x2), (3, .int x3), (4, .int x4)] 0 [] 0 0
  refine go_aload_n (d_T_set 0 rfl) rfl rfl ?_
  refine go_iload_n (d_T_set 1 rfl) rfl rfl ?_
  obtain ⟨g_1, h⟩ := gd_some h
  obtain ⟨v_2, ev_2, h⟩ := ln_some h
  refine go_putI (x := x1) (d_T_set 2 rfl) fp_T_7 (Nat.eq_of_beq_eq_true g_1) rfl rfl rfl ?_
  rw [← ev_2]
  refine go_aload_n (d_T_set 5 rfl) rfl rfl ?_
  refine go_iload_n (d_T_set 6 rfl) rfl rfl ?_
  obtain ⟨v_3, ev_3, h⟩ := ln_some h
  refine go_putI (x := x2) (d_T_set 7 rfl) fp_T_13 (Nat.eq_of_beq_eq_true g_1) rfl rfl rfl ?_
  rw [← ev_3]
  refine go_aload_n (d_T_set 10 rfl) rfl rfl ?_
  refine go_iload_n (d_T_set 11 rfl) rfl rfl ?_
  obtain ⟨v_4, ev_4, h⟩ := ln_some h
  refine go_putI (x := x3) (d_T_set 12 rfl) fp_T_16 (Nat.eq_of_beq_eq_true g_1) rfl rfl rfl ?_
  rw [← ev_4]
  refine go_aload_n (d_T_set 15 rfl) rfl rfl ?_
  refine go_iload (d_T_set 16 rfl) rfl ?_
  obtain ⟨v_5, ev_5, h⟩ := ln_some h
  refine go_putI (x := x4) (d_T_set 18 rfl) fp_T_19 (Nat.eq_of_beq_eq_true g_1) rfl rfl rfl ?_
  rw [← ev_5]
  exact go_vret (d_T_set 21 rfl) rfl (Option.some.inj h) (by decide) (by decide)
abbrev M_T_isFor : go_M := (c_T_isFor, 4, (some .boolean), RT, [], rmD 0 0)
def f_T_isFor_28  (k0 : Nat) (x1 : Int32) (x2 : Int32) (x3 : Int32) (v : go_V) : Option go_R := some (0, (0 : Int32), 0, v)
set_option maxHeartbeats 4000000 in
set_option maxRecDepth 100000 in
theorem b_T_isFor_28 {l : Launch} {G : go_G} {ad : Nat → Nat} (hl : l.stackTraces = false) {r : go_R}  (k0 : Nat) (x1 : Int32) (x2 : Int32) (x3 : Int32) (v : go_V) (h : f_T_isFor_28  k0 x1 x2 x3 v = some r) : Go l G M_T_isFor go_Ex0 (go_E G ad 1 r 0 0) ad v [(0, .ref (ad (k0))), (1, .int x1), (2, .int x2), (3, .int x3)] 28 [] 0 0 := by
  unfold f_T_isFor_28 at h
  refine go_iconst (x := (0 : Int32)) (d_T_isFor 28 rfl) (by decide) ?_
  exact go_iret (d_T_isFor 29 rfl) rfl (by decide) (Option.some.inj h) (by decide) (by decide)
def f_T_isFor (k0 : Nat) (x1 : Int32) (x2 : Int32) (x3 : Int32) (v : go_V) : Option go_R := gd (Nat.beq (go_cls (k0)) 1) (br (decide ((v (k0) 0) = x1)) (br (decide ((v (k0) 1) < x2)) (f_T_isFor_28  (k0) (x1) (x2) (x3) (v)) (br (decide (x3 < (v (k0) 1))) (f_T_isFor_28  (k0) (x1) (x2) (x3) (v)) (some (0, (1 : Int32), 0, v)))) (f_T_isFor_28  (k0) (x1) (x2) (x3) (v)))
set_option maxHeartbeats 4000000 in
set_option maxRecDepth 100000 in
theorem Ca_T_isFor {l : Launch} {G : go_G} {ad : Nat → Nat} (hl : l.stackTraces = false) {r : go_R} {k0 : Nat} {x1 : Int32} {x2 : Int32} {x3 : Int32} {v : go_V} (h : f_T_isFor k0 x1 x2 x3 v = some r) : Ca l G y_T_isFor (.code y_T_isFor c_T_isFor 4 (some .boolean) :: go_TT) (rmD 0 0) 1 ad [.ref (ad (k0)), .int x1, .int x2, .int x3] v r := by
  unfold f_T_isFor at h
  refine go_body (own := RT) (by decide) rfl (Nat.le_of_ble_eq_true rfl) ?_
  show Go l G M_T_isFor go_Ex0 (go_E G ad 1 r 0 0) ad v [(0, .ref (ad (k0))), (1, .int x1), (2, .int x2), (3, .int x3)] 0 [] 0 0
  refine go_aload_n (d_T_isFor 0 rfl) rfl rfl ?_
  obtain ⟨g_1, h⟩ := gd_some h
  refine go_getI (d_T_isFor 1 rfl) fl_T_7 (Nat.eq_of_beq_eq_true g_1) rfl ?_
  refine go_iload_n (d_T_isFor 4 rfl) rfl rfl ?_
  rcases br_some h with ⟨c_2, h⟩ | ⟨c_2, h⟩
  · refine go_icmp_ne (tgt := 28) (d_T_isFor 5 rfl) (by decide) (fun q => absurd (of_decide_eq_true c_2) q) (fun _ => ?_)
    refine go_aload_n (d_T_isFor 8 rfl) rfl rfl ?_
    refine go_getI (d_T_isFor 9 rfl) fl_T_13 (Nat.eq_of_beq_eq_true g_1) rfl ?_
    refine go_iload_n (d_T_isFor 12 rfl) rfl rfl ?_
    rcases br_some h with ⟨c_3, h⟩ | ⟨c_3, h⟩
    · refine go_icmp_lt (tgt := 28) (d_T_isFor 13 rfl) (by decide) (fun _ => ?_) (fun q => absurd (of_decide_eq_true c_3) q)
      exact b_T_isFor_28 hl  (k0) (x1) (x2) (x3) (v) h
    · refine go_icmp_lt (tgt := 28) (d_T_isFor 13 rfl) (by decide) (fun q => absurd q (of_decide_eq_false c_3)) (fun _ => ?_)
      refine go_aload_n (d_T_isFor 16 rfl) rfl rfl ?_
      refine go_getI (d_T_isFor 17 rfl) fl_T_13 (Nat.eq_of_beq_eq_true g_1) rfl ?_
      refine go_iload_n (d_T_isFor 20 rfl) rfl rfl ?_
      rcases br_some h with ⟨c_4, h⟩ | ⟨c_4, h⟩
      · refine go_icmp_gt (tgt := 28) (d_T_isFor 21 rfl) (by decide) (fun _ => ?_) (fun q => absurd (of_decide_eq_true c_4) q)
        exact b_T_isFor_28 hl  (k0) (x1) (x2) (x3) (v) h
      · refine go_icmp_gt (tgt := 28) (d_T_isFor 21 rfl) (by decide) (fun q => absurd q (of_decide_eq_false c_4)) (fun _ => ?_)
        refine go_iconst (x := (1 : Int32)) (d_T_isFor 24 rfl) (by decide) ?_
        refine go_goto (tgt := 29) (d_T_isFor 25 rfl) (by decide) ?_
        exact go_iret (d_T_isFor 29 rfl) rfl (by decide) (Option.some.inj h) (by decide) (by decide)
  · refine go_icmp_ne (tgt := 28) (d_T_isFor 5 rfl) (by decide) (fun _ => ?_) (fun q => absurd q (of_decide_eq_false c_2))
    exact b_T_isFor_28 hl  (k0) (x1) (x2) (x3) (v) h
abbrev M_U_setFree : go_M := (c_U_setFree, 1, none, RU, [], rmD 0 0)
def f_U_setFree (k0 : Nat) (v : go_V) : Option go_R := gd (Nat.beq (go_cls (k0)) 2) (ln (u2 v (k0) 1 (0 : Int32)) (fun v_2 => ln (u2 v_2 (k0) 2 ((-1) : Int32)) (fun v_3 => ln (u2 v_3 (k0) 3 ((-1) : Int32)) (fun v_4 => some (0, 0, 0, v_4)))))
set_option maxHeartbeats 4000000 in
set_option maxRecDepth 100000 in
theorem Ca_U_setFree {l : Launch} {G : go_G} {ad : Nat → Nat} (hl : l.stackTraces = false) {r : go_R} {k0 : Nat} {v : go_V} (h : f_U_setFree k0 v = some r) : Ca l G y_U_setFree (.code y_U_setFree c_U_setFree 1 none :: go_TT) (rmD 0 0) 0 ad [.ref (ad (k0))] v r := by
  unfold f_U_setFree at h
  refine go_body (own := RU) (by decide) rfl (Nat.le_of_ble_eq_true rfl) ?_
  show Go l G M_U_setFree go_Ex0 (go_E G ad 0 r 0 0) ad v [(0, .ref (ad (k0)))] 0 [] 0 0
  refine go_aload_n (d_U_setFree 0 rfl) rfl rfl ?_
  refine go_iconst (x := (0 : Int32)) (d_U_setFree 1 rfl) (by decide) ?_
  obtain ⟨g_1, h⟩ := gd_some h
  obtain ⟨v_2, ev_2, h⟩ := ln_some h
  refine go_putI (x := (0 : Int32)) (d_U_setFree 2 rfl) fp_U_9 (Nat.eq_of_beq_eq_true g_1) rfl rfl rfl ?_
  rw [← ev_2]
  refine go_aload_n (d_U_setFree 5 rfl) rfl rfl ?_
  refine go_iconst (x := ((-1) : Int32)) (d_U_setFree 6 rfl) (by decide) ?_
  obtain ⟨v_3, ev_3, h⟩ := ln_some h
  refine go_putI (x := ((-1) : Int32)) (d_U_setFree 7 rfl) fp_U_15 (Nat.eq_of_beq_eq_true g_1) rfl rfl rfl ?_
  rw [← ev_3]
  refine go_aload_n (d_U_setFree 10 rfl) rfl rfl ?_
  refine go_iconst (x := ((-1) : Int32)) (d_U_setFree 11 rfl) (by decide) ?_
  obtain ⟨v_4, ev_4, h⟩ := ln_some h
  refine go_putI (x := ((-1) : Int32)) (d_U_setFree 12 rfl) fp_U_18 (Nat.eq_of_beq_eq_true g_1) rfl rfl rfl ?_
  rw [← ev_4]
  exact go_vret (d_U_setFree 15 rfl) rfl (Option.some.inj h) (by decide) (by decide)
abbrev M_U_isFor : go_M := (c_U_isFor, 3, (some .boolean), RU, [], rmD 0 0)
def f_U_isFor_20  (k0 : Nat) (x1 : Int32) (x2 : Int32) (v : go_V) : Option go_R := some (0, (0 : Int32), 0, v)
set_option maxHeartbeats 4000000 in
set_option maxRecDepth 100000 in
theorem b_U_isFor_20 {l : Launch} {G : go_G} {ad : Nat → Nat} (hl : l.stackTraces = false) {r : go_R}  (k0 : Nat) (x1 : Int32) (x2 : Int32) (v : go_V) (h : f_U_isFor_20  k0 x1 x2 v = some r) : Go l G M_U_isFor go_Ex0 (go_E G ad 1 r 0 0) ad v [(0, .ref (ad (k0))), (1, .int x1), (2, .int x2)] 20 [] 0 0 := by
  unfold f_U_isFor_20 at h
  refine go_iconst (x := (0 : Int32)) (d_U_isFor 20 rfl) (by decide) ?_
  exact go_iret (d_U_isFor 21 rfl) rfl (by decide) (Option.some.inj h) (by decide) (by decide)
def f_U_isFor (k0 : Nat) (x1 : Int32) (x2 : Int32) (v : go_V) : Option go_R := gd (Nat.beq (go_cls (k0)) 2) (br (decide ((v (k0) 2) = x1)) (br (decide ((v (k0) 0) = x2)) (some (0, (1 : Int32), 0, v)) (f_U_isFor_20  (k0) (x1) (x2) (v))) (f_U_isFor_20  (k0) (x1) (x2) (v)))
set_option maxHeartbeats 4000000 in
set_option maxRecDepth 100000 in
theorem Ca_U_isFor {l : Launch} {G : go_G} {ad : Nat → Nat} (hl : l.stackTraces = false) {r : go_R} {k0 : Nat} {x1 : Int32} {x2 : Int32} {v : go_V} (h : f_U_isFor k0 x1 x2 v = some r) : Ca l G y_U_isFor (.code y_U_isFor c_U_isFor 3 (some .boolean) :: go_TT) (rmD 0 0) 1 ad [.ref (ad (k0)), .int x1, .int x2] v r := by
  unfold f_U_isFor at h
  refine go_body (own := RU) (by decide) rfl (Nat.le_of_ble_eq_true rfl) ?_
  show Go l G M_U_isFor go_Ex0 (go_E G ad 1 r 0 0) ad v [(0, .ref (ad (k0))), (1, .int x1), (2, .int x2)] 0 [] 0 0
  refine go_aload_n (d_U_isFor 0 rfl) rfl rfl ?_
  obtain ⟨g_1, h⟩ := gd_some h
  refine go_getI (d_U_isFor 1 rfl) fl_U_15 (Nat.eq_of_beq_eq_true g_1) rfl ?_
  refine go_iload_n (d_U_isFor 4 rfl) rfl rfl ?_
  rcases br_some h with ⟨c_2, h⟩ | ⟨c_2, h⟩
  · refine go_icmp_ne (tgt := 20) (d_U_isFor 5 rfl) (by decide) (fun q => absurd (of_decide_eq_true c_2) q) (fun _ => ?_)
    refine go_aload_n (d_U_isFor 8 rfl) rfl rfl ?_
    refine go_getI (d_U_isFor 9 rfl) fl_U_21 (Nat.eq_of_beq_eq_true g_1) rfl ?_
    refine go_iload_n (d_U_isFor 12 rfl) rfl rfl ?_
    rcases br_some h with ⟨c_3, h⟩ | ⟨c_3, h⟩
    · refine go_icmp_ne (tgt := 20) (d_U_isFor 13 rfl) (by decide) (fun q => absurd (of_decide_eq_true c_3) q) (fun _ => ?_)
      refine go_iconst (x := (1 : Int32)) (d_U_isFor 16 rfl) (by decide) ?_
      refine go_goto (tgt := 21) (d_U_isFor 17 rfl) (by decide) ?_
      exact go_iret (d_U_isFor 21 rfl) rfl (by decide) (Option.some.inj h) (by decide) (by decide)
    · refine go_icmp_ne (tgt := 20) (d_U_isFor 13 rfl) (by decide) (fun _ => ?_) (fun q => absurd q (of_decide_eq_false c_3))
      exact b_U_isFor_20 hl  (k0) (x1) (x2) (v) h
  · refine go_icmp_ne (tgt := 20) (d_U_isFor 5 rfl) (by decide) (fun _ => ?_) (fun q => absurd q (of_decide_eq_false c_2))
    exact b_U_isFor_20 hl  (k0) (x1) (x2) (v) h
abbrev M_U_goesBackBefore : go_M := (c_U_goesBackBefore, 2, (some .boolean), RU, [], rmD 0 0)
def f_U_goesBackBefore (k0 : Nat) (k1 : Nat) (v : go_V) : Option go_R := gd (Nat.beq (go_cls (k0)) 2) (gd (Nat.beq (go_cls (k1)) 2) (br (decide ((v (k0) 1) = (v (k1) 1))) (br (decide ((v (k0) 3) < (v (k1) 3))) (some (0, (0 : Int32), 0, v)) (some (0, (1 : Int32), 0, v))) (br (decide ((v (k0) 1) = (1 : Int32))) (some (0, (1 : Int32), 0, v)) (some (0, (0 : Int32), 0, v)))))
set_option maxHeartbeats 4000000 in
set_option maxRecDepth 100000 in
theorem Ca_U_goesBackBefore {l : Launch} {G : go_G} {ad : Nat → Nat} (hl : l.stackTraces = false) {r : go_R} {k0 : Nat} {k1 : Nat} {v : go_V} (h : f_U_goesBackBefore k0 k1 v = some r) : Ca l G y_U_goesBackBefore (.code y_U_goesBackBefore c_U_goesBackBefore 2 (some .boolean) :: go_TT) (rmD 0 0) 1 ad [.ref (ad (k0)), .ref (ad (k1))] v r := by
  unfold f_U_goesBackBefore at h
  refine go_body (own := RU) (by decide) rfl (Nat.le_of_ble_eq_true rfl) ?_
  show Go l G M_U_goesBackBefore go_Ex0 (go_E G ad 1 r 0 0) ad v [(0, .ref (ad (k0))), (1, .ref (ad (k1)))] 0 [] 0 0
  refine go_aload_n (d_U_goesBackBefore 0 rfl) rfl rfl ?_
  obtain ⟨g_1, h⟩ := gd_some h
  refine go_getI (d_U_goesBackBefore 1 rfl) fl_U_9 (Nat.eq_of_beq_eq_true g_1) rfl ?_
  refine go_aload_n (d_U_goesBackBefore 4 rfl) rfl rfl ?_
  obtain ⟨g_2, h⟩ := gd_some h
  refine go_getI (d_U_goesBackBefore 5 rfl) fl_U_9 (Nat.eq_of_beq_eq_true g_2) rfl ?_
  rcases br_some h with ⟨c_3, h⟩ | ⟨c_3, h⟩
  · refine go_icmp_eq (tgt := 25) (d_U_goesBackBefore 8 rfl) (by decide) (fun _ => ?_) (fun q => absurd (of_decide_eq_true c_3) q)
    refine go_aload_n (d_U_goesBackBefore 25 rfl) rfl rfl ?_
    refine go_getI (d_U_goesBackBefore 26 rfl) fl_U_18 (Nat.eq_of_beq_eq_true g_1) rfl ?_
    refine go_aload_n (d_U_goesBackBefore 29 rfl) rfl rfl ?_
    refine go_getI (d_U_goesBackBefore 30 rfl) fl_U_18 (Nat.eq_of_beq_eq_true g_2) rfl ?_
    rcases br_some h with ⟨c_4, h⟩ | ⟨c_4, h⟩
    · refine go_icmp_lt (tgt := 40) (d_U_goesBackBefore 33 rfl) (by decide) (fun _ => ?_) (fun q => absurd (of_decide_eq_true c_4) q)
      refine go_iconst (x := (0 : Int32)) (d_U_goesBackBefore 40 rfl) (by decide) ?_
      exact go_iret (d_U_goesBackBefore 41 rfl) rfl (by decide) (Option.some.inj h) (by decide) (by decide)
    · refine go_icmp_lt (tgt := 40) (d_U_goesBackBefore 33 rfl) (by decide) (fun q => absurd q (of_decide_eq_false c_4)) (fun _ => ?_)
      refine go_iconst (x := (1 : Int32)) (d_U_goesBackBefore 36 rfl) (by decide) ?_
      refine go_goto (tgt := 41) (d_U_goesBackBefore 37 rfl) (by decide) ?_
      exact go_iret (d_U_goesBackBefore 41 rfl) rfl (by decide) (Option.some.inj h) (by decide) (by decide)
  · refine go_icmp_eq (tgt := 25) (d_U_goesBackBefore 8 rfl) (by decide) (fun q => absurd q (of_decide_eq_false c_3)) (fun _ => ?_)
    refine go_aload_n (d_U_goesBackBefore 11 rfl) rfl rfl ?_
    refine go_getI (d_U_goesBackBefore 12 rfl) fl_U_9 (Nat.eq_of_beq_eq_true g_1) rfl ?_
    refine go_iconst (x := (1 : Int32)) (d_U_goesBackBefore 15 rfl) (by decide) ?_
    rcases br_some h with ⟨c_5, h⟩ | ⟨c_5, h⟩
    · refine go_icmp_ne (tgt := 23) (d_U_goesBackBefore 16 rfl) (by decide) (fun q => absurd (of_decide_eq_true c_5) q) (fun _ => ?_)
      refine go_iconst (x := (1 : Int32)) (d_U_goesBackBefore 19 rfl) (by decide) ?_
      refine go_goto (tgt := 24) (d_U_goesBackBefore 20 rfl) (by decide) ?_
      exact go_iret (d_U_goesBackBefore 24 rfl) rfl (by decide) (Option.some.inj h) (by decide) (by decide)
    · refine go_icmp_ne (tgt := 23) (d_U_goesBackBefore 16 rfl) (by decide) (fun _ => ?_) (fun q => absurd q (of_decide_eq_false c_5))
      refine go_iconst (x := (0 : Int32)) (d_U_goesBackBefore 23 rfl) (by decide) ?_
      exact go_iret (d_U_goesBackBefore 24 rfl) rfl (by decide) (Option.some.inj h) (by decide) (by decide)
abbrev M_S_refuseUnknownStep : go_M := (c_S_refuseUnknownStep, 1, none, RS, [], rmD 0 1)
def f_S_refuseUnknownStep_10  (x0 : Int32) (v : go_V) : Option go_R := some (1, 0, 0, v)
set_option maxHeartbeats 4000000 in
set_option maxRecDepth 100000 in
theorem b_S_refuseUnknownStep_10 {l : Launch} {G : go_G} {ad : Nat → Nat} (hl : l.stackTraces = false) {r : go_R}  (x0 : Int32) (v : go_V) (h : f_S_refuseUnknownStep_10  x0 v = some r) : Go l G M_S_refuseUnknownStep go_Ex0 (go_E G ad 0 r 1 6) ad v [(0, .int x0)] 10 [] 0 0 := by
  unfold f_S_refuseUnknownStep_10 at h
  exact go_thr (text := "no such step") hl xs_65_69_1 (by decide +kernel) rfl rfl (d_S_refuseUnknownStep 10 rfl) (d_S_refuseUnknownStep 13 rfl) (d_S_refuseUnknownStep 14 rfl) (d_S_refuseUnknownStep 16 rfl) (d_S_refuseUnknownStep 19 rfl) ⟨by decide, Nat.le_of_ble_eq_true rfl, by decide, by decide⟩ (Option.some.inj h) (by decide) (by decide)
def f_S_refuseUnknownStep (x0 : Int32) (v : go_V) : Option go_R := br (decide (x0 < 0)) (f_S_refuseUnknownStep_10  (x0) (v)) (br (decide (x0 < (10 : Int32))) (some (0, 0, 0, v)) (f_S_refuseUnknownStep_10  (x0) (v)))
set_option maxHeartbeats 4000000 in
set_option maxRecDepth 100000 in
theorem Ca_S_refuseUnknownStep {l : Launch} {G : go_G} {ad : Nat → Nat} (hl : l.stackTraces = false) {r : go_R} {x0 : Int32} {v : go_V} (h : f_S_refuseUnknownStep x0 v = some r) : Ca l G y_S_refuseUnknownStep (.code y_S_refuseUnknownStep c_S_refuseUnknownStep 1 none :: go_TT) (rmD 0 1) 0 ad [.int x0] v r := by
  unfold f_S_refuseUnknownStep at h
  refine go_body (own := RS) (by decide) rfl (Nat.le_of_ble_eq_true rfl) ?_
  show Go l G M_S_refuseUnknownStep go_Ex0 (go_E G ad 0 r 1 6) ad v [(0, .int x0)] 0 [] 0 0
  refine go_iload_n (d_S_refuseUnknownStep 0 rfl) rfl rfl ?_
  rcases br_some h with ⟨c_1, h⟩ | ⟨c_1, h⟩
  · refine go_if_lt (tgt := 10) (d_S_refuseUnknownStep 1 rfl) (by decide) (fun _ => ?_) (fun q => absurd (of_decide_eq_true c_1) q)
    exact b_S_refuseUnknownStep_10 hl  (x0) (v) h
  · refine go_if_lt (tgt := 10) (d_S_refuseUnknownStep 1 rfl) (by decide) (fun q => absurd q (of_decide_eq_false c_1)) (fun _ => ?_)
    refine go_iload_n (d_S_refuseUnknownStep 4 rfl) rfl rfl ?_
    refine go_bipush (x := (10 : Int32)) (d_S_refuseUnknownStep 5 rfl) (by decide) ?_
    rcases br_some h with ⟨c_2, h⟩ | ⟨c_2, h⟩
    · refine go_icmp_lt (tgt := 20) (d_S_refuseUnknownStep 7 rfl) (by decide) (fun _ => ?_) (fun q => absurd (of_decide_eq_true c_2) q)
      exact go_vret (d_S_refuseUnknownStep 20 rfl) rfl (Option.some.inj h) (by decide) (by decide)
    · refine go_icmp_lt (tgt := 20) (d_S_refuseUnknownStep 7 rfl) (by decide) (fun q => absurd q (of_decide_eq_false c_2)) (fun _ => ?_)
      exact b_S_refuseUnknownStep_10 hl  (x0) (v) h
abbrev M_S_refuseUnknownSkill : go_M := (c_S_refuseUnknownSkill, 1, none, RS, [], rmD 0 1)
def f_S_refuseUnknownSkill_10  (x0 : Int32) (v : go_V) : Option go_R := some (1, 0, 0, v)
set_option maxHeartbeats 4000000 in
set_option maxRecDepth 100000 in
theorem b_S_refuseUnknownSkill_10 {l : Launch} {G : go_G} {ad : Nat → Nat} (hl : l.stackTraces = false) {r : go_R}  (x0 : Int32) (v : go_V) (h : f_S_refuseUnknownSkill_10  x0 v = some r) : Go l G M_S_refuseUnknownSkill go_Ex0 (go_E G ad 0 r 1 6) ad v [(0, .int x0)] 10 [] 0 0 := by
  unfold f_S_refuseUnknownSkill_10 at h
  exact go_thr (text := "no such skill") hl xs_65_69_1 (by decide +kernel) rfl rfl (d_S_refuseUnknownSkill 10 rfl) (d_S_refuseUnknownSkill 13 rfl) (d_S_refuseUnknownSkill 14 rfl) (d_S_refuseUnknownSkill 16 rfl) (d_S_refuseUnknownSkill 19 rfl) ⟨by decide, Nat.le_of_ble_eq_true rfl, by decide, by decide⟩ (Option.some.inj h) (by decide) (by decide)
def f_S_refuseUnknownSkill (x0 : Int32) (v : go_V) : Option go_R := br (decide (x0 < 0)) (f_S_refuseUnknownSkill_10  (x0) (v)) (br (decide (x0 < (8 : Int32))) (some (0, 0, 0, v)) (f_S_refuseUnknownSkill_10  (x0) (v)))
set_option maxHeartbeats 4000000 in
set_option maxRecDepth 100000 in
theorem Ca_S_refuseUnknownSkill {l : Launch} {G : go_G} {ad : Nat → Nat} (hl : l.stackTraces = false) {r : go_R} {x0 : Int32} {v : go_V} (h : f_S_refuseUnknownSkill x0 v = some r) : Ca l G y_S_refuseUnknownSkill (.code y_S_refuseUnknownSkill c_S_refuseUnknownSkill 1 none :: go_TT) (rmD 0 1) 0 ad [.int x0] v r := by
  unfold f_S_refuseUnknownSkill at h
  refine go_body (own := RS) (by decide) rfl (Nat.le_of_ble_eq_true rfl) ?_
  show Go l G M_S_refuseUnknownSkill go_Ex0 (go_E G ad 0 r 1 6) ad v [(0, .int x0)] 0 [] 0 0
  refine go_iload_n (d_S_refuseUnknownSkill 0 rfl) rfl rfl ?_
  rcases br_some h with ⟨c_1, h⟩ | ⟨c_1, h⟩
  · refine go_if_lt (tgt := 10) (d_S_refuseUnknownSkill 1 rfl) (by decide) (fun _ => ?_) (fun q => absurd (of_decide_eq_true c_1) q)
    exact b_S_refuseUnknownSkill_10 hl  (x0) (v) h
  · refine go_if_lt (tgt := 10) (d_S_refuseUnknownSkill 1 rfl) (by decide) (fun q => absurd q (of_decide_eq_false c_1)) (fun _ => ?_)
    refine go_iload_n (d_S_refuseUnknownSkill 4 rfl) rfl rfl ?_
    refine go_bipush (x := (8 : Int32)) (d_S_refuseUnknownSkill 5 rfl) (by decide) ?_
    rcases br_some h with ⟨c_2, h⟩ | ⟨c_2, h⟩
    · refine go_icmp_lt (tgt := 20) (d_S_refuseUnknownSkill 7 rfl) (by decide) (fun _ => ?_) (fun q => absurd (of_decide_eq_true c_2) q)
      exact go_vret (d_S_refuseUnknownSkill 20 rfl) rfl (Option.some.inj h) (by decide) (by decide)
    · refine go_icmp_lt (tgt := 20) (d_S_refuseUnknownSkill 7 rfl) (by decide) (fun q => absurd q (of_decide_eq_false c_2)) (fun _ => ?_)
      exact b_S_refuseUnknownSkill_10 hl  (x0) (v) h
abbrev M_S_refuseOutside : go_M := (c_S_refuseOutside, 3, none, RS, [], rmD 0 1)
def f_S_refuseOutside_10  (x0 : Int32) (x1 : Int32) (x2 : Int32) (v : go_V) : Option go_R := some (2, 0, 0, v)
set_option maxHeartbeats 4000000 in
set_option maxRecDepth 100000 in
theorem b_S_refuseOutside_10 {l : Launch} {G : go_G} {ad : Nat → Nat} (hl : l.stackTraces = false) {r : go_R}  (x0 : Int32) (x1 : Int32) (x2 : Int32) (v : go_V) (h : f_S_refuseOutside_10  x0 x1 x2 v = some r) : Go l G M_S_refuseOutside go_Ex0 (go_E G ad 0 r 1 6) ad v [(0, .int x0), (1, .int x1), (2, .int x2)] 10 [] 0 0 := by
  unfold f_S_refuseOutside_10 at h
  exact go_thr (text := "a number is outside its range") hl xs_203_207_2 (by decide +kernel) rfl rfl (d_S_refuseOutside 10 rfl) (d_S_refuseOutside 13 rfl) (d_S_refuseOutside 14 rfl) (d_S_refuseOutside 16 rfl) (d_S_refuseOutside 19 rfl) ⟨by decide, Nat.le_of_ble_eq_true rfl, by decide, by decide⟩ (Option.some.inj h) (by decide) (by decide)
def f_S_refuseOutside (x0 : Int32) (x1 : Int32) (x2 : Int32) (v : go_V) : Option go_R := br (decide (x0 < x1)) (f_S_refuseOutside_10  (x0) (x1) (x2) (v)) (br (decide (x0 ≤ x2)) (some (0, 0, 0, v)) (f_S_refuseOutside_10  (x0) (x1) (x2) (v)))
set_option maxHeartbeats 4000000 in
set_option maxRecDepth 100000 in
theorem Ca_S_refuseOutside {l : Launch} {G : go_G} {ad : Nat → Nat} (hl : l.stackTraces = false) {r : go_R} {x0 : Int32} {x1 : Int32} {x2 : Int32} {v : go_V} (h : f_S_refuseOutside x0 x1 x2 v = some r) : Ca l G y_S_refuseOutside (.code y_S_refuseOutside c_S_refuseOutside 3 none :: go_TT) (rmD 0 1) 0 ad [.int x0, .int x1, .int x2] v r := by
  unfold f_S_refuseOutside at h
  refine go_body (own := RS) (by decide) rfl (Nat.le_of_ble_eq_true rfl) ?_
  show Go l G M_S_refuseOutside go_Ex0 (go_E G ad 0 r 1 6) ad v [(0, .int x0), (1, .int x1), (2, .int x2)] 0 [] 0 0
  refine go_iload_n (d_S_refuseOutside 0 rfl) rfl rfl ?_
  refine go_iload_n (d_S_refuseOutside 1 rfl) rfl rfl ?_
  rcases br_some h with ⟨c_1, h⟩ | ⟨c_1, h⟩
  · refine go_icmp_lt (tgt := 10) (d_S_refuseOutside 2 rfl) (by decide) (fun _ => ?_) (fun q => absurd (of_decide_eq_true c_1) q)
    exact b_S_refuseOutside_10 hl  (x0) (x1) (x2) (v) h
  · refine go_icmp_lt (tgt := 10) (d_S_refuseOutside 2 rfl) (by decide) (fun q => absurd q (of_decide_eq_false c_1)) (fun _ => ?_)
    refine go_iload_n (d_S_refuseOutside 5 rfl) rfl rfl ?_
    refine go_iload_n (d_S_refuseOutside 6 rfl) rfl rfl ?_
    rcases br_some h with ⟨c_2, h⟩ | ⟨c_2, h⟩
    · refine go_icmp_le (tgt := 20) (d_S_refuseOutside 7 rfl) (by decide) (fun _ => ?_) (fun q => absurd (of_decide_eq_true c_2) q)
      exact go_vret (d_S_refuseOutside 20 rfl) rfl (Option.some.inj h) (by decide) (by decide)
    · refine go_icmp_le (tgt := 20) (d_S_refuseOutside 7 rfl) (by decide) (fun q => absurd q (of_decide_eq_false c_2)) (fun _ => ?_)
      exact b_S_refuseOutside_10 hl  (x0) (x1) (x2) (v) h
abbrev M_S_isAnyOpenAbove : go_M := (c_S_isAnyOpenAbove, 3, (some .boolean), RS, [], rmD 0 0)
def f_S_isAnyOpenAbove_37 (rec2 : Int32 → Int32 → go_V → Option go_R) (x1 : Int32) (x2 : Int32) (v : go_V) : Option go_R := rec2 (x1) ((x2 + 1)) (v)
set_option maxHeartbeats 4000000 in
set_option maxRecDepth 100000 in
theorem b_S_isAnyOpenAbove_37 {l : Launch} {G : go_G} {ad : Nat → Nat} (hl : l.stackTraces = false) {r : go_R} (rec2 : Int32 → Int32 → go_V → Option go_R) (hrec2 : ∀ (x1 : Int32) (x2 : Int32) (v : go_V), rec2 x1 x2 v = some r → Go l G M_S_isAnyOpenAbove go_Ex0 (go_E G ad 1 r 0 0) ad v [(0, .ref (ad (0))), (1, .int x1), (2, .int x2)] 2 [] 0 0) (x1 : Int32) (x2 : Int32) (v : go_V) (h : f_S_isAnyOpenAbove_37 rec2 x1 x2 v = some r) : Go l G M_S_isAnyOpenAbove go_Ex0 (go_E G ad 1 r 0 0) ad v [(0, .ref (ad (0))), (1, .int x1), (2, .int x2)] 37 [] 0 0 := by
  unfold f_S_isAnyOpenAbove_37 at h
  refine go_iinc (y := (x2 + 1)) (lv' := [(0, .ref (ad (0))), (1, .int x1), (2, .int ((x2 + 1)))]) (d_S_isAnyOpenAbove 37 rfl) rfl rfl (by decide) rfl ?_
  refine go_goto (tgt := 2) (d_S_isAnyOpenAbove 40 rfl) (by decide) ?_
  exact hrec2 (x1) ((x2 + 1)) (v) h
def f_S_isAnyOpenAbove_2  : Nat → Int32 → Int32 → go_V → Option go_R
  | 0, _, _, _ => none
  | n + 1, x1, x2, v => br (decide ((v 0 8) ≤ x2)) (some (0, (0 : Int32), 0, v)) (gd (go_in x2 12) (ln (go_elt 14 x2.toNatClampNeg) (fun k_3 => gd (Nat.beq (go_cls (k_3)) 0) (br (decide ((v (k_3) 0) = 0)) (f_S_isAnyOpenAbove_37 (f_S_isAnyOpenAbove_2 n) (x1) (x2) (v)) (gd (go_in x2 12) (ln (go_elt 14 x2.toNatClampNeg) (fun k_7 => gd (Nat.beq (go_cls (k_7)) 0) (br (decide ((v (k_7) 1) ≤ x1)) (f_S_isAnyOpenAbove_37 (f_S_isAnyOpenAbove_2 n) (x1) (x2) (v)) (some (0, (1 : Int32), 0, v))))))))))
set_option maxHeartbeats 4000000 in
set_option maxRecDepth 100000 in
theorem b_S_isAnyOpenAbove_2 {l : Launch} {G : go_G} {ad : Nat → Nat} (hl : l.stackTraces = false) {r : go_R}  : ∀ (n : Nat) (x1 : Int32) (x2 : Int32) (v : go_V), f_S_isAnyOpenAbove_2  n x1 x2 v = some r → Go l G M_S_isAnyOpenAbove go_Ex0 (go_E G ad 1 r 0 0) ad v [(0, .ref (ad (0))), (1, .int x1), (2, .int x2)] 2 [] 0 0 := by
  intro n
  induction n with
  | zero =>
    intro x1 x2 v h
    cases h
  | succ n ih =>
    intro x1 x2 v h
    rw [f_S_isAnyOpenAbove_2] at h
    refine go_iload_n (d_S_isAnyOpenAbove 2 rfl) rfl rfl ?_
    refine go_aload_n (d_S_isAnyOpenAbove 3 rfl) rfl rfl ?_
    refine go_getI (d_S_isAnyOpenAbove 4 rfl) fl_S_92 rfl rfl ?_
    rcases br_some h with ⟨c_1, h⟩ | ⟨c_1, h⟩
    · refine go_icmp_ge (tgt := 43) (d_S_isAnyOpenAbove 7 rfl) (by decide) (fun _ => ?_) (fun q => absurd (of_decide_eq_true c_1) q)
      refine go_iconst (x := (0 : Int32)) (d_S_isAnyOpenAbove 43 rfl) (by decide) ?_
      exact go_iret (d_S_isAnyOpenAbove 44 rfl) rfl (by decide) (Option.some.inj h) (by decide) (by decide)
    · refine go_icmp_ge (tgt := 43) (d_S_isAnyOpenAbove 7 rfl) (by decide) (fun q => absurd q (of_decide_eq_false c_1)) (fun _ => ?_)
      refine go_aload_n (d_S_isAnyOpenAbove 10 rfl) rfl rfl ?_
      refine go_getR (d_S_isAnyOpenAbove 11 rfl) fl_S_26 rfl rfl ?_
      show Go _ _ _ _ _ _ _ _ _ (.ref (ad (14)) :: []) _ _
      refine go_iload_n (d_S_isAnyOpenAbove 14 rfl) rfl rfl ?_
      obtain ⟨g_2, h⟩ := gd_some h
      obtain ⟨k_3, ek_3, h⟩ := ln_some h
      refine go_aald (c := 14) (d_S_isAnyOpenAbove 15 rfl) rfl (by decide) g_2 ?_
      rw [← ek_3]
      obtain ⟨g_4, h⟩ := gd_some h
      refine go_getI (d_S_isAnyOpenAbove 16 rfl) fl_S_97 (Nat.eq_of_beq_eq_true g_4) rfl ?_
      rcases br_some h with ⟨c_5, h⟩ | ⟨c_5, h⟩
      · refine go_if_eq (tgt := 37) (d_S_isAnyOpenAbove 19 rfl) (by decide) (fun _ => ?_) (fun q => absurd (of_decide_eq_true c_5) q)
        exact b_S_isAnyOpenAbove_37 hl _ ih (x1) (x2) (v) h
      · refine go_if_eq (tgt := 37) (d_S_isAnyOpenAbove 19 rfl) (by decide) (fun q => absurd q (of_decide_eq_false c_5)) (fun _ => ?_)
        refine go_aload_n (d_S_isAnyOpenAbove 22 rfl) rfl rfl ?_
        refine go_getR (d_S_isAnyOpenAbove 23 rfl) fl_S_26 rfl rfl ?_
        show Go _ _ _ _ _ _ _ _ _ (.ref (ad (14)) :: []) _ _
        refine go_iload_n (d_S_isAnyOpenAbove 26 rfl) rfl rfl ?_
        obtain ⟨g_6, h⟩ := gd_some h
        obtain ⟨k_7, ek_7, h⟩ := ln_some h
        refine go_aald (c := 14) (d_S_isAnyOpenAbove 27 rfl) rfl (by decide) g_6 ?_
        rw [← ek_7]
        obtain ⟨g_8, h⟩ := gd_some h
        refine go_getI (d_S_isAnyOpenAbove 28 rfl) fl_S_142 (Nat.eq_of_beq_eq_true g_8) rfl ?_
        refine go_iload_n (d_S_isAnyOpenAbove 31 rfl) rfl rfl ?_
        rcases br_some h with ⟨c_9, h⟩ | ⟨c_9, h⟩
        · refine go_icmp_le (tgt := 37) (d_S_isAnyOpenAbove 32 rfl) (by decide) (fun _ => ?_) (fun q => absurd (of_decide_eq_true c_9) q)
          exact b_S_isAnyOpenAbove_37 hl _ ih (x1) (x2) (v) h
        · refine go_icmp_le (tgt := 37) (d_S_isAnyOpenAbove 32 rfl) (by decide) (fun q => absurd q (of_decide_eq_false c_9)) (fun _ => ?_)
          refine go_iconst (x := (1 : Int32)) (d_S_isAnyOpenAbove 35 rfl) (by decide) ?_
          exact go_iret (d_S_isAnyOpenAbove 36 rfl) rfl (by decide) (Option.some.inj h) (by decide) (by decide)
def f_S_isAnyOpenAbove (x1 : Int32) (v : go_V) : Option go_R := f_S_isAnyOpenAbove_2  FU (x1) ((0 : Int32)) (v)
set_option maxHeartbeats 4000000 in
set_option maxRecDepth 100000 in
theorem Ca_S_isAnyOpenAbove {l : Launch} {G : go_G} {ad : Nat → Nat} (hl : l.stackTraces = false) {r : go_R} {x1 : Int32} {v : go_V} (h : f_S_isAnyOpenAbove x1 v = some r) : Ca l G y_S_isAnyOpenAbove (.code y_S_isAnyOpenAbove c_S_isAnyOpenAbove 3 (some .boolean) :: go_TT) (rmD 0 0) 1 ad [.ref (ad (0)), .int x1] v r := by
  unfold f_S_isAnyOpenAbove at h
  refine go_body (own := RS) (by decide) rfl (Nat.le_of_ble_eq_true rfl) ?_
  show Go l G M_S_isAnyOpenAbove go_Ex0 (go_E G ad 1 r 0 0) ad v [(0, .ref (ad (0))), (1, .int x1)] 0 [] 0 0
  refine go_iconst (x := (0 : Int32)) (d_S_isAnyOpenAbove 0 rfl) (by decide) ?_
  refine go_istore_n (lv' := [(0, .ref (ad (0))), (1, .int x1), (2, .int ((0 : Int32)))]) (d_S_isAnyOpenAbove 1 rfl) rfl (by decide) rfl ?_
  exact b_S_isAnyOpenAbove_2 hl  FU (x1) ((0 : Int32)) (v) h
abbrev M_S_addSilence : go_M := (c_S_addSilence, 3, none, RS, [], rmD 0 0)
def f_S_addSilence_67  (x1 : Int32) (x2 : Int32) (v : go_V) : Option go_R := gd (go_in x2 20) (ln (u2 v 13 x2.toNatClampNeg x1) (fun v_2 => some (0, 0, 0, v_2)))
set_option maxHeartbeats 4000000 in
set_option maxRecDepth 100000 in
theorem b_S_addSilence_67 {l : Launch} {G : go_G} {ad : Nat → Nat} (hl : l.stackTraces = false) {r : go_R}  (x1 : Int32) (x2 : Int32) (v : go_V) (h : f_S_addSilence_67  x1 x2 v = some r) : Go l G M_S_addSilence go_Ex0 (go_E G ad 0 r 0 0) ad v [(0, .ref (ad (0))), (1, .int x1), (2, .int x2)] 67 [] 0 0 := by
  unfold f_S_addSilence_67 at h
  refine go_aload_n (d_S_addSilence 67 rfl) rfl rfl ?_
  refine go_getR (d_S_addSilence 68 rfl) fl_S_20 rfl rfl ?_
  show Go _ _ _ _ _ _ _ _ _ (.ref (ad (13)) :: []) _ _
  refine go_iload_n (d_S_addSilence 71 rfl) rfl rfl ?_
  refine go_iload_n (d_S_addSilence 72 rfl) rfl rfl ?_
  obtain ⟨g_1, h⟩ := gd_some h
  obtain ⟨v_2, ev_2, h⟩ := ln_some h
  refine go_iast (y := x1) (d_S_addSilence 73 rfl) rfl g_1 ?_
  rw [← ev_2]
  exact go_vret (d_S_addSilence 74 rfl) rfl (Option.some.inj h) (by decide) (by decide)
def f_S_addSilence_15  : Nat → Int32 → Int32 → go_V → Option go_R
  | 0, _, _, _ => none
  | n + 1, x1, x2, v => br (decide (x2 ≤ 0)) (f_S_addSilence_67  (x1) (x2) (v)) (gd (go_in (x2 - (1 : Int32)) 20) (gd (go_in (v 13 (x2 - (1 : Int32)).toNatClampNeg) 20) (ln (go_elt 12 (v 13 (x2 - (1 : Int32)).toNatClampNeg).toNatClampNeg) (fun k_4 => gd (Nat.beq (go_cls (k_4)) 1) (gd (go_in x1 20) (ln (go_elt 12 x1.toNatClampNeg) (fun k_7 => gd (Nat.beq (go_cls (k_7)) 1) (br (decide ((v (k_4) 1) ≤ (v (k_7) 1))) (f_S_addSilence_67  (x1) (x2) (v)) (gd (go_in (x2 - (1 : Int32)) 20) (gd (go_in x2 20) (ln (u2 v 13 x2.toNatClampNeg (v 13 (x2 - (1 : Int32)).toNatClampNeg)) (fun v_12 => f_S_addSilence_15 n (x1) ((x2 + (-1))) (v_12)))))))))))))
set_option maxHeartbeats 4000000 in
set_option maxRecDepth 100000 in
theorem b_S_addSilence_15 {l : Launch} {G : go_G} {ad : Nat → Nat} (hl : l.stackTraces = false) {r : go_R}  : ∀ (n : Nat) (x1 : Int32) (x2 : Int32) (v : go_V), f_S_addSilence_15  n x1 x2 v = some r → Go l G M_S_addSilence go_Ex0 (go_E G ad 0 r 0 0) ad v [(0, .ref (ad (0))), (1, .int x1), (2, .int x2)] 15 [] 0 0 := by
  intro n
  induction n with
  | zero =>
    intro x1 x2 v h
    cases h
  | succ n ih =>
    intro x1 x2 v h
    rw [f_S_addSilence_15] at h
    refine go_iload_n (d_S_addSilence 15 rfl) rfl rfl ?_
    rcases br_some h with ⟨c_1, h⟩ | ⟨c_1, h⟩
    · refine go_if_le (tgt := 67) (d_S_addSilence 16 rfl) (by decide) (fun _ => ?_) (fun q => absurd (of_decide_eq_true c_1) q)
      exact b_S_addSilence_67 hl  (x1) (x2) (v) h
    · refine go_if_le (tgt := 67) (d_S_addSilence 16 rfl) (by decide) (fun q => absurd q (of_decide_eq_false c_1)) (fun _ => ?_)
      refine go_aload_n (d_S_addSilence 19 rfl) rfl rfl ?_
      refine go_getR (d_S_addSilence 20 rfl) fl_S_16 rfl rfl ?_
      show Go _ _ _ _ _ _ _ _ _ (.ref (ad (12)) :: []) _ _
      refine go_aload_n (d_S_addSilence 23 rfl) rfl rfl ?_
      refine go_getR (d_S_addSilence 24 rfl) fl_S_20 rfl rfl ?_
      show Go _ _ _ _ _ _ _ _ _ (.ref (ad (13)) :: .ref (ad (12)) :: []) _ _
      refine go_iload_n (d_S_addSilence 27 rfl) rfl rfl ?_
      refine go_iconst (x := (1 : Int32)) (d_S_addSilence 28 rfl) (by decide) ?_
      refine go_isub (d_S_addSilence 29 rfl) ?_
      obtain ⟨g_2, h⟩ := gd_some h
      refine go_iald (d_S_addSilence 30 rfl) rfl g_2 ?_
      obtain ⟨g_3, h⟩ := gd_some h
      obtain ⟨k_4, ek_4, h⟩ := ln_some h
      refine go_aald (c := 13) (d_S_addSilence 31 rfl) rfl (by decide) g_3 ?_
      rw [← ek_4]
      obtain ⟨g_5, h⟩ := gd_some h
      refine go_getI (d_S_addSilence 32 rfl) fl_S_221 (Nat.eq_of_beq_eq_true g_5) rfl ?_
      refine go_aload_n (d_S_addSilence 35 rfl) rfl rfl ?_
      refine go_getR (d_S_addSilence 36 rfl) fl_S_16 rfl rfl ?_
      show Go _ _ _ _ _ _ _ _ _ (.ref (ad (12)) :: .int ((v (k_4) 1)) :: []) _ _
      refine go_iload_n (d_S_addSilence 39 rfl) rfl rfl ?_
      obtain ⟨g_6, h⟩ := gd_some h
      obtain ⟨k_7, ek_7, h⟩ := ln_some h
      refine go_aald (c := 13) (d_S_addSilence 40 rfl) rfl (by decide) g_6 ?_
      rw [← ek_7]
      obtain ⟨g_8, h⟩ := gd_some h
      refine go_getI (d_S_addSilence 41 rfl) fl_S_221 (Nat.eq_of_beq_eq_true g_8) rfl ?_
      rcases br_some h with ⟨c_9, h⟩ | ⟨c_9, h⟩
      · refine go_icmp_le (tgt := 67) (d_S_addSilence 44 rfl) (by decide) (fun _ => ?_) (fun q => absurd (of_decide_eq_true c_9) q)
        exact b_S_addSilence_67 hl  (x1) (x2) (v) h
      · refine go_icmp_le (tgt := 67) (d_S_addSilence 44 rfl) (by decide) (fun q => absurd q (of_decide_eq_false c_9)) (fun _ => ?_)
        refine go_aload_n (d_S_addSilence 47 rfl) rfl rfl ?_
        refine go_getR (d_S_addSilence 48 rfl) fl_S_20 rfl rfl ?_
        show Go _ _ _ _ _ _ _ _ _ (.ref (ad (13)) :: []) _ _
        refine go_iload_n (d_S_addSilence 51 rfl) rfl rfl ?_
        refine go_aload_n (d_S_addSilence 52 rfl) rfl rfl ?_
        refine go_getR (d_S_addSilence 53 rfl) fl_S_20 rfl rfl ?_
        show Go _ _ _ _ _ _ _ _ _ (.ref (ad (13)) :: .int x2 :: .ref (ad (13)) :: []) _ _
        refine go_iload_n (d_S_addSilence 56 rfl) rfl rfl ?_
        refine go_iconst (x := (1 : Int32)) (d_S_addSilence 57 rfl) (by decide) ?_
        refine go_isub (d_S_addSilence 58 rfl) ?_
        obtain ⟨g_10, h⟩ := gd_some h
        refine go_iald (d_S_addSilence 59 rfl) rfl g_10 ?_
        obtain ⟨g_11, h⟩ := gd_some h
        obtain ⟨v_12, ev_12, h⟩ := ln_some h
        refine go_iast (y := (v 13 (x2 - (1 : Int32)).toNatClampNeg)) (d_S_addSilence 60 rfl) rfl g_11 ?_
        rw [← ev_12]
        refine go_iinc (y := (x2 + (-1))) (lv' := [(0, .ref (ad (0))), (1, .int x1), (2, .int ((x2 + (-1))))]) (d_S_addSilence 61 rfl) rfl rfl (by decide) rfl ?_
        refine go_goto (tgt := 15) (d_S_addSilence 64 rfl) (by decide) ?_
        exact ih (x1) ((x2 + (-1))) (v_12) h
def f_S_addSilence (x1 : Int32) (v : go_V) : Option go_R := ln (u2 v 0 6 ((v 0 6) + (1 : Int32))) (fun v_1 => f_S_addSilence_15  FU (x1) ((v 0 6)) (v_1))
set_option maxHeartbeats 4000000 in
set_option maxRecDepth 100000 in
theorem Ca_S_addSilence {l : Launch} {G : go_G} {ad : Nat → Nat} (hl : l.stackTraces = false) {r : go_R} {x1 : Int32} {v : go_V} (h : f_S_addSilence x1 v = some r) : Ca l G y_S_addSilence (.code y_S_addSilence c_S_addSilence 3 none :: go_TT) (rmD 0 0) 0 ad [.ref (ad (0)), .int x1] v r := by
  unfold f_S_addSilence at h
  refine go_body (own := RS) (by decide) rfl (Nat.le_of_ble_eq_true rfl) ?_
  show Go l G M_S_addSilence go_Ex0 (go_E G ad 0 r 0 0) ad v [(0, .ref (ad (0))), (1, .int x1)] 0 [] 0 0
  refine go_aload_n (d_S_addSilence 0 rfl) rfl rfl ?_
  refine go_getI (d_S_addSilence 1 rfl) fl_S_218 rfl rfl ?_
  refine go_istore_n (lv' := [(0, .ref (ad (0))), (1, .int x1), (2, .int ((v 0 6)))]) (d_S_addSilence 4 rfl) rfl (by decide) rfl ?_
  refine go_aload_n (d_S_addSilence 5 rfl) rfl rfl ?_
  refine go_dup (d_S_addSilence 6 rfl) rfl ?_
  refine go_getI (d_S_addSilence 7 rfl) fl_S_218 rfl rfl ?_
  refine go_iconst (x := (1 : Int32)) (d_S_addSilence 10 rfl) (by decide) ?_
  refine go_iadd (d_S_addSilence 11 rfl) ?_
  obtain ⟨v_1, ev_1, h⟩ := ln_some h
  refine go_putI (x := ((v 0 6) + (1 : Int32))) (d_S_addSilence 12 rfl) fp_S_218 rfl rfl rfl rfl ?_
  rw [← ev_1]
  exact b_S_addSilence_15 hl  FU (x1) ((v 0 6)) (v_1) h
abbrev M_S_knownIncident : go_M := (c_S_knownIncident, 2, (some (.object "SecondWaves$Incident")), RS, [], rmD 0 1)
def f_S_knownIncident_12  (x1 : Int32) (v : go_V) : Option go_R := some (1, 0, 0, v)
set_option maxHeartbeats 4000000 in
set_option maxRecDepth 100000 in
theorem b_S_knownIncident_12 {l : Launch} {G : go_G} {ad : Nat → Nat} (hl : l.stackTraces = false) {r : go_R}  (x1 : Int32) (v : go_V) (h : f_S_knownIncident_12  x1 v = some r) : Go l G M_S_knownIncident go_Ex0 (go_E G ad 2 r 1 6) ad v [(0, .ref (ad (0))), (1, .int x1)] 12 [] 0 0 := by
  unfold f_S_knownIncident_12 at h
  exact go_thr (text := "no such incident") hl xs_65_69_1 (by decide +kernel) rfl rfl (d_S_knownIncident 12 rfl) (d_S_knownIncident 15 rfl) (d_S_knownIncident 16 rfl) (d_S_knownIncident 18 rfl) (d_S_knownIncident 21 rfl) ⟨by decide, Nat.le_of_ble_eq_true rfl, by decide, by decide⟩ (Option.some.inj h) (by decide) (by decide)
def f_S_knownIncident (x1 : Int32) (v : go_V) : Option go_R := br (decide (x1 < 0)) (f_S_knownIncident_12  (x1) (v)) (br (decide (x1 < (v 0 8))) (gd (go_in x1 12) (ln (go_elt 14 x1.toNatClampNeg) (fun k_4 => some (0, 0, k_4, v)))) (f_S_knownIncident_12  (x1) (v)))
set_option maxHeartbeats 4000000 in
set_option maxRecDepth 100000 in
theorem Ca_S_knownIncident {l : Launch} {G : go_G} {ad : Nat → Nat} (hl : l.stackTraces = false) {r : go_R} {x1 : Int32} {v : go_V} (h : f_S_knownIncident x1 v = some r) : Ca l G y_S_knownIncident (.code y_S_knownIncident c_S_knownIncident 2 (some (.object "SecondWaves$Incident")) :: go_TT) (rmD 0 1) 2 ad [.ref (ad (0)), .int x1] v r := by
  unfold f_S_knownIncident at h
  refine go_body (own := RS) (by decide) rfl (Nat.le_of_ble_eq_true rfl) ?_
  show Go l G M_S_knownIncident go_Ex0 (go_E G ad 2 r 1 6) ad v [(0, .ref (ad (0))), (1, .int x1)] 0 [] 0 0
  refine go_iload_n (d_S_knownIncident 0 rfl) rfl rfl ?_
  rcases br_some h with ⟨c_1, h⟩ | ⟨c_1, h⟩
  · refine go_if_lt (tgt := 12) (d_S_knownIncident 1 rfl) (by decide) (fun _ => ?_) (fun q => absurd (of_decide_eq_true c_1) q)
    exact b_S_knownIncident_12 hl  (x1) (v) h
  · refine go_if_lt (tgt := 12) (d_S_knownIncident 1 rfl) (by decide) (fun q => absurd q (of_decide_eq_false c_1)) (fun _ => ?_)
    refine go_iload_n (d_S_knownIncident 4 rfl) rfl rfl ?_
    refine go_aload_n (d_S_knownIncident 5 rfl) rfl rfl ?_
    refine go_getI (d_S_knownIncident 6 rfl) fl_S_92 rfl rfl ?_
    rcases br_some h with ⟨c_2, h⟩ | ⟨c_2, h⟩
    · refine go_icmp_lt (tgt := 22) (d_S_knownIncident 9 rfl) (by decide) (fun _ => ?_) (fun q => absurd (of_decide_eq_true c_2) q)
      refine go_aload_n (d_S_knownIncident 22 rfl) rfl rfl ?_
      refine go_getR (d_S_knownIncident 23 rfl) fl_S_26 rfl rfl ?_
      show Go _ _ _ _ _ _ _ _ _ (.ref (ad (14)) :: []) _ _
      refine go_iload_n (d_S_knownIncident 26 rfl) rfl rfl ?_
      obtain ⟨g_3, h⟩ := gd_some h
      obtain ⟨k_4, ek_4, h⟩ := ln_some h
      refine go_aald (c := 14) (d_S_knownIncident 27 rfl) rfl (by decide) g_3 ?_
      rw [← ek_4]
      exact go_aret (d_S_knownIncident 28 rfl) rfl (Option.some.inj h) (by decide) (by decide)
    · refine go_icmp_lt (tgt := 22) (d_S_knownIncident 9 rfl) (by decide) (fun q => absurd q (of_decide_eq_false c_2)) (fun _ => ?_)
      exact b_S_knownIncident_12 hl  (x1) (v) h
abbrev M_S_refuseClosed : go_M := (c_S_refuseClosed, 1, none, RS, [], rmD 0 1)
def f_S_refuseClosed (k0 : Nat) (v : go_V) : Option go_R := gd (Nat.beq (go_cls (k0)) 0) (br (decide ((v (k0) 0) = 0)) (some (3, 0, 0, v)) (some (0, 0, 0, v)))
set_option maxHeartbeats 4000000 in
set_option maxRecDepth 100000 in
theorem Ca_S_refuseClosed {l : Launch} {G : go_G} {ad : Nat → Nat} (hl : l.stackTraces = false) {r : go_R} {k0 : Nat} {v : go_V} (h : f_S_refuseClosed k0 v = some r) : Ca l G y_S_refuseClosed (.code y_S_refuseClosed c_S_refuseClosed 1 none :: go_TT) (rmD 0 1) 0 ad [.ref (ad (k0))] v r := by
  unfold f_S_refuseClosed at h
  refine go_body (own := RS) (by decide) rfl (Nat.le_of_ble_eq_true rfl) ?_
  show Go l G M_S_refuseClosed go_Ex0 (go_E G ad 0 r 1 6) ad v [(0, .ref (ad (k0)))] 0 [] 0 0
  refine go_aload_n (d_S_refuseClosed 0 rfl) rfl rfl ?_
  obtain ⟨g_1, h⟩ := gd_some h
  refine go_getI (d_S_refuseClosed 1 rfl) fl_S_97 (Nat.eq_of_beq_eq_true g_1) rfl ?_
  rcases br_some h with ⟨c_2, h⟩ | ⟨c_2, h⟩
  · refine go_if_ne (tgt := 17) (d_S_refuseClosed 4 rfl) (by decide) (fun q => absurd (of_decide_eq_true c_2) q) (fun _ => ?_)
    exact go_thr (text := "the incident is closed") hl xs_54_58_3 (by decide +kernel) rfl rfl (d_S_refuseClosed 7 rfl) (d_S_refuseClosed 10 rfl) (d_S_refuseClosed 11 rfl) (d_S_refuseClosed 13 rfl) (d_S_refuseClosed 16 rfl) ⟨by decide, Nat.le_of_ble_eq_true rfl, by decide, by decide⟩ (Option.some.inj h) (by decide) (by decide)
  · refine go_if_ne (tgt := 17) (d_S_refuseClosed 4 rfl) (by decide) (fun _ => ?_) (fun q => absurd q (of_decide_eq_false c_2))
    exact go_vret (d_S_refuseClosed 17 rfl) rfl (Option.some.inj h) (by decide) (by decide)
abbrev M_S_raise : go_M := (c_S_raise, 3, none, RS, [], rmD 0 0)
def f_S_raise (k1 : Nat) (x2 : Int32) (v : go_V) : Option go_R := gd (Nat.beq (go_cls (k1)) 0) (br (decide (x2 ≤ (v (k1) 1))) (ln (u2 v 0 13 ((v 0 13) + (1 : Int32))) (fun v_3 => some (0, 0, 0, v_3))) (ln (u2 v (k1) 1 x2) (fun v_4 => ln (u2 v_4 (k1) 5 ((v_4 (k1) 5) + (1 : Int32))) (fun v_5 => some (0, 0, 0, v_5)))))
set_option maxHeartbeats 4000000 in
set_option maxRecDepth 100000 in
theorem Ca_S_raise {l : Launch} {G : go_G} {ad : Nat → Nat} (hl : l.stackTraces = false) {r : go_R} {k1 : Nat} {x2 : Int32} {v : go_V} (h : f_S_raise k1 x2 v = some r) : Ca l G y_S_raise (.code y_S_raise c_S_raise 3 none :: go_TT) (rmD 0 0) 0 ad [.ref (ad (0)), .ref (ad (k1)), .int x2] v r := by
  unfold f_S_raise at h
  refine go_body (own := RS) (by decide) rfl (Nat.le_of_ble_eq_true rfl) ?_
  show Go l G M_S_raise go_Ex0 (go_E G ad 0 r 0 0) ad v [(0, .ref (ad (0))), (1, .ref (ad (k1))), (2, .int x2)] 0 [] 0 0
  refine go_iload_n (d_S_raise 0 rfl) rfl rfl ?_
  refine go_aload_n (d_S_raise 1 rfl) rfl rfl ?_
  obtain ⟨g_1, h⟩ := gd_some h
  refine go_getI (d_S_raise 2 rfl) fl_S_142 (Nat.eq_of_beq_eq_true g_1) rfl ?_
  rcases br_some h with ⟨c_2, h⟩ | ⟨c_2, h⟩
  · refine go_icmp_le (tgt := 26) (d_S_raise 5 rfl) (by decide) (fun _ => ?_) (fun q => absurd (of_decide_eq_true c_2) q)
    refine go_aload_n (d_S_raise 26 rfl) rfl rfl ?_
    refine go_dup (d_S_raise 27 rfl) rfl ?_
    refine go_getI (d_S_raise 28 rfl) fl_S_194 rfl rfl ?_
    refine go_iconst (x := (1 : Int32)) (d_S_raise 31 rfl) (by decide) ?_
    refine go_iadd (d_S_raise 32 rfl) ?_
    obtain ⟨v_3, ev_3, h⟩ := ln_some h
    refine go_putI (x := ((v 0 13) + (1 : Int32))) (d_S_raise 33 rfl) fp_S_194 rfl rfl rfl rfl ?_
    rw [← ev_3]
    exact go_vret (d_S_raise 36 rfl) rfl (Option.some.inj h) (by decide) (by decide)
  · refine go_icmp_le (tgt := 26) (d_S_raise 5 rfl) (by decide) (fun q => absurd q (of_decide_eq_false c_2)) (fun _ => ?_)
    refine go_aload_n (d_S_raise 8 rfl) rfl rfl ?_
    refine go_iload_n (d_S_raise 9 rfl) rfl rfl ?_
    obtain ⟨v_4, ev_4, h⟩ := ln_some h
    refine go_putI (x := x2) (d_S_raise 10 rfl) fp_S_142 (Nat.eq_of_beq_eq_true g_1) rfl rfl rfl ?_
    rw [← ev_4]
    refine go_aload_n (d_S_raise 13 rfl) rfl rfl ?_
    refine go_dup (d_S_raise 14 rfl) rfl ?_
    refine go_getI (d_S_raise 15 rfl) fl_S_184 (Nat.eq_of_beq_eq_true g_1) rfl ?_
    refine go_iconst (x := (1 : Int32)) (d_S_raise 18 rfl) (by decide) ?_
    refine go_iadd (d_S_raise 19 rfl) ?_
    obtain ⟨v_5, ev_5, h⟩ := ln_some h
    refine go_putI (x := ((v_4 (k1) 5) + (1 : Int32))) (d_S_raise 20 rfl) fp_S_184 (Nat.eq_of_beq_eq_true g_1) rfl rfl rfl ?_
    rw [← ev_5]
    refine go_goto (tgt := 36) (d_S_raise 23 rfl) (by decide) ?_
    exact go_vret (d_S_raise 36 rfl) rfl (Option.some.inj h) (by decide) (by decide)
abbrev M_S_act : go_M := (c_S_act, 6, (some .boolean), RS, [], rmD 1 0)
def f_S_act_36  (k1 : Nat) (x2 : Int32) (x3 : Int32) (k4 : Nat) (x5 : Int32) (v : go_V) : Option go_R := gd (Nat.beq (go_cls (k1)) 0) (gd (Nat.beq (go_cls (go_ref (k1) 7)) 10) (gd (go_in x2 (go_len (go_ref (k1) 7))) (ln (u2 v (go_ref (k1) 7) x2.toNatClampNeg x3) (fun v_4 => ln (u2 v_4 (k1) 4 ((v_4 (k1) 4) + (1 : Int32))) (fun v_5 => gd (Nat.beq (go_cls (k4)) 1) (ln (u2 v_5 (k4) 4 ((v_5 (k4) 4) + (1 : Int32))) (fun v_7 => bd (f_S_raise k1 (if (v_7 0 1) < (v_7 (k4) 2) then (v_7 0 1) else (v_7 (k4) 2)) v_7) (fun r_8 => nt r_8 (some (0, (1 : Int32), 0, r_8.2.2.2))))))))))
set_option maxHeartbeats 4000000 in
set_option maxRecDepth 100000 in
theorem b_S_act_36 {l : Launch} {G : go_G} {ad : Nat → Nat} (hl : l.stackTraces = false) {r : go_R}  (k1 : Nat) (x2 : Int32) (x3 : Int32) (k4 : Nat) (x5 : Int32) (v : go_V) (h : f_S_act_36  k1 x2 x3 k4 x5 v = some r) : Go l G M_S_act go_Ex0 (go_E G ad 1 r 0 0) ad v [(0, .ref (ad (0))), (1, .ref (ad (k1))), (2, .int x2), (3, .int x3), (4, .ref (ad (k4))), (5, .int x5)] 36 [] 0 0 := by
  unfold f_S_act_36 at h
  refine go_aload_n (d_S_act 36 rfl) rfl rfl ?_
  obtain ⟨g_1, h⟩ := gd_some h
  refine go_getR (d_S_act 37 rfl) fl_S_228 (Nat.eq_of_beq_eq_true g_1) rfl ?_
  refine go_iload_n (d_S_act 40 rfl) rfl rfl ?_
  refine go_iload_n (d_S_act 41 rfl) rfl rfl ?_
  obtain ⟨g_2, h⟩ := gd_some h
  obtain ⟨g_3, h⟩ := gd_some h
  obtain ⟨v_4, ev_4, h⟩ := ln_some h
  refine go_iast (y := x3) (d_S_act 42 rfl) (Nat.eq_of_beq_eq_true g_2) g_3 ?_
  rw [← ev_4]
  refine go_aload_n (d_S_act 43 rfl) rfl rfl ?_
  refine go_dup (d_S_act 44 rfl) rfl ?_
  refine go_getI (d_S_act 45 rfl) fl_S_181 (Nat.eq_of_beq_eq_true g_1) rfl ?_
  refine go_iconst (x := (1 : Int32)) (d_S_act 48 rfl) (by decide) ?_
  refine go_iadd (d_S_act 49 rfl) ?_
  obtain ⟨v_5, ev_5, h⟩ := ln_some h
  refine go_putI (x := ((v_4 (k1) 4) + (1 : Int32))) (d_S_act 50 rfl) fp_S_181 (Nat.eq_of_beq_eq_true g_1) rfl rfl rfl ?_
  rw [← ev_5]
  refine go_aload (d_S_act 53 rfl) rfl ?_
  refine go_dup (d_S_act 55 rfl) rfl ?_
  obtain ⟨g_6, h⟩ := gd_some h
  refine go_getI (d_S_act 56 rfl) fl_S_193 (Nat.eq_of_beq_eq_true g_6) rfl ?_
  refine go_iconst (x := (1 : Int32)) (d_S_act 59 rfl) (by decide) ?_
  refine go_iadd (d_S_act 60 rfl) ?_
  obtain ⟨v_7, ev_7, h⟩ := ln_some h
  refine go_putI (x := ((v_5 (k4) 4) + (1 : Int32))) (d_S_act 61 rfl) fp_S_193 (Nat.eq_of_beq_eq_true g_6) rfl rfl rfl ?_
  rw [← ev_7]
  refine go_aload_n (d_S_act 64 rfl) rfl rfl ?_
  refine go_aload_n (d_S_act 65 rfl) rfl rfl ?_
  refine go_aload (d_S_act 66 rfl) rfl ?_
  refine go_getI (d_S_act 68 rfl) fl_S_234 (Nat.eq_of_beq_eq_true g_6) rfl ?_
  refine go_aload_n (d_S_act 71 rfl) rfl rfl ?_
  refine go_getI (d_S_act 72 rfl) fl_S_61 rfl rfl ?_
  refine go_min (d_S_act 75 rfl) mw_S_235 ⟨by decide, Nat.le_of_ble_eq_true rfl, by decide, by decide⟩ ?_
  obtain ⟨r_8, o_9, h⟩ := bd_some h
  obtain ⟨z_10, h⟩ := nt_some h
  refine go_cV (As := [.ref (ad (k1)), .int ((if (v_7 0 1) < (v_7 (k4) 2) then (v_7 0 1) else (v_7 (k4) 2)))]) (rest := []) (st2 := []) (c2 := 0) (s2 := 0) rfl rfl rfl rfl (Ca_S_raise hl o_9)  (d_S_act 78 rfl) cw_S_240 ⟨w_398, w_8⟩ rfl (by decide) rfl ⟨by decide, by decide⟩ rfl (Nat.le_of_ble_eq_true rfl) ⟨by decide, by decide⟩ (fun _ => ?_) (fun q => absurd z_10 q)
  refine go_iconst (x := (1 : Int32)) (d_S_act 81 rfl) (by decide) ?_
  exact go_iret (d_S_act 82 rfl) rfl (by decide) (Option.some.inj h) (by decide) (by decide)
def f_S_act (k1 : Nat) (x2 : Int32) (x3 : Int32) (v : go_V) : Option go_R := gd (go_in x2 20) (ln (go_elt 12 x2.toNatClampNeg) (fun k_2 => gd (Nat.beq (go_cls (k1)) 0) (gd (Nat.beq (go_cls (go_ref (k1) 7)) 10) (gd (go_in x2 (go_len (go_ref (k1) 7))) (br (decide ((v (go_ref (k1) 7) x2.toNatClampNeg) = ((-1) : Int32))) (f_S_act_36  (k1) (x2) (x3) (k_2) ((v (go_ref (k1) 7) x2.toNatClampNeg)) (v)) (gd (Nat.beq (go_cls (k_2)) 1) (br (decide ((v (k_2) 3) ≤ (x3 - (v (go_ref (k1) 7) x2.toNatClampNeg)))) (f_S_act_36  (k1) (x2) (x3) (k_2) ((v (go_ref (k1) 7) x2.toNatClampNeg)) (v)) (some (0, (0 : Int32), 0, v)))))))))
set_option maxHeartbeats 4000000 in
set_option maxRecDepth 100000 in
theorem Ca_S_act {l : Launch} {G : go_G} {ad : Nat → Nat} (hl : l.stackTraces = false) {r : go_R} {k1 : Nat} {x2 : Int32} {x3 : Int32} {v : go_V} (h : f_S_act k1 x2 x3 v = some r) : Ca l G y_S_act (.code y_S_act c_S_act 6 (some .boolean) :: go_TT) (rmD 1 0) 1 ad [.ref (ad (0)), .ref (ad (k1)), .int x2, .int x3] v r := by
  unfold f_S_act at h
  refine go_body (own := RS) (by decide) rfl (Nat.le_of_ble_eq_true rfl) ?_
  show Go l G M_S_act go_Ex0 (go_E G ad 1 r 0 0) ad v [(0, .ref (ad (0))), (1, .ref (ad (k1))), (2, .int x2), (3, .int x3)] 0 [] 0 0
  refine go_aload_n (d_S_act 0 rfl) rfl rfl ?_
  refine go_getR (d_S_act 1 rfl) fl_S_16 rfl rfl ?_
  show Go _ _ _ _ _ _ _ _ _ (.ref (ad (12)) :: []) _ _
  refine go_iload_n (d_S_act 4 rfl) rfl rfl ?_
  obtain ⟨g_1, h⟩ := gd_some h
  obtain ⟨k_2, ek_2, h⟩ := ln_some h
  refine go_aald (c := 13) (d_S_act 5 rfl) rfl (by decide) g_1 ?_
  rw [← ek_2]
  refine go_astore (lv' := [(0, .ref (ad (0))), (1, .ref (ad (k1))), (2, .int x2), (3, .int x3), (4, .ref (ad (k_2)))]) (d_S_act 6 rfl) (by decide) rfl ?_
  refine go_aload_n (d_S_act 8 rfl) rfl rfl ?_
  obtain ⟨g_3, h⟩ := gd_some h
  refine go_getR (d_S_act 9 rfl) fl_S_228 (Nat.eq_of_beq_eq_true g_3) rfl ?_
  refine go_iload_n (d_S_act 12 rfl) rfl rfl ?_
  obtain ⟨g_4, h⟩ := gd_some h
  obtain ⟨g_5, h⟩ := gd_some h
  refine go_iald (d_S_act 13 rfl) (Nat.eq_of_beq_eq_true g_4) g_5 ?_
  refine go_istore (lv' := [(0, .ref (ad (0))), (1, .ref (ad (k1))), (2, .int x2), (3, .int x3), (4, .ref (ad (k_2))), (5, .int ((v (go_ref (k1) 7) x2.toNatClampNeg)))]) (d_S_act 14 rfl) (by decide) rfl ?_
  refine go_iload (d_S_act 16 rfl) rfl ?_
  refine go_iconst (x := ((-1) : Int32)) (d_S_act 18 rfl) (by decide) ?_
  rcases br_some h with ⟨c_6, h⟩ | ⟨c_6, h⟩
  · refine go_icmp_eq (tgt := 36) (d_S_act 19 rfl) (by decide) (fun _ => ?_) (fun q => absurd (of_decide_eq_true c_6) q)
    exact b_S_act_36 hl  (k1) (x2) (x3) (k_2) ((v (go_ref (k1) 7) x2.toNatClampNeg)) (v) h
  · refine go_icmp_eq (tgt := 36) (d_S_act 19 rfl) (by decide) (fun q => absurd q (of_decide_eq_false c_6)) (fun _ => ?_)
    refine go_iload_n (d_S_act 22 rfl) rfl rfl ?_
    refine go_iload (d_S_act 23 rfl) rfl ?_
    refine go_isub (d_S_act 25 rfl) ?_
    refine go_aload (d_S_act 26 rfl) rfl ?_
    obtain ⟨g_7, h⟩ := gd_some h
    refine go_getI (d_S_act 28 rfl) fl_S_231 (Nat.eq_of_beq_eq_true g_7) rfl ?_
    rcases br_some h with ⟨c_8, h⟩ | ⟨c_8, h⟩
    · refine go_icmp_ge (tgt := 36) (d_S_act 31 rfl) (by decide) (fun _ => ?_) (fun q => absurd (of_decide_eq_true c_8) q)
      exact b_S_act_36 hl  (k1) (x2) (x3) (k_2) ((v (go_ref (k1) 7) x2.toNatClampNeg)) (v) h
    · refine go_icmp_ge (tgt := 36) (d_S_act 31 rfl) (by decide) (fun q => absurd q (of_decide_eq_false c_8)) (fun _ => ?_)
      refine go_iconst (x := (0 : Int32)) (d_S_act 34 rfl) (by decide) ?_
      exact go_iret (d_S_act 35 rfl) rfl (by decide) (Option.some.inj h) (by decide) (by decide)
abbrev M_S_stayedSilent : go_M := (c_S_stayedSilent, 6, (some .int), RS, [], rmD 2 0)
def f_S_stayedSilent_71 (rec5 : Nat → Int32 → Int32 → Int32 → go_V → Option go_R) (k1 : Nat) (x2 : Int32) (x3 : Int32) (x4 : Int32) (x5 : Int32) (v : go_V) : Option go_R := rec5 (k1) (x2) (x3) ((x4 + 1)) (v)
set_option maxHeartbeats 4000000 in
set_option maxRecDepth 100000 in
theorem b_S_stayedSilent_71 {l : Launch} {G : go_G} {ad : Nat → Nat} (hl : l.stackTraces = false) {r : go_R} (rec5 : Nat → Int32 → Int32 → Int32 → go_V → Option go_R) (hrec5 : ∀ (k1 : Nat) (x2 : Int32) (x3 : Int32) (x4 : Int32) (v : go_V), rec5 k1 x2 x3 x4 v = some r → Go l G M_S_stayedSilent go_Ex0 (go_E G ad 1 r 0 0) ad v [(0, .ref (ad (0))), (1, .ref (ad (k1))), (2, .int x2), (3, .int x3), (4, .int x4)] 5 [] 0 0) (k1 : Nat) (x2 : Int32) (x3 : Int32) (x4 : Int32) (x5 : Int32) (v : go_V) (h : f_S_stayedSilent_71 rec5 k1 x2 x3 x4 x5 v = some r) : Go l G M_S_stayedSilent go_Ex0 (go_E G ad 1 r 0 0) ad v [(0, .ref (ad (0))), (1, .ref (ad (k1))), (2, .int x2), (3, .int x3), (4, .int x4), (5, .int x5)] 71 [] 0 0 := by
  unfold f_S_stayedSilent_71 at h
  refine go_iinc (y := (x4 + 1)) (lv' := [(0, .ref (ad (0))), (1, .ref (ad (k1))), (2, .int x2), (3, .int x3), (4, .int ((x4 + 1))), (5, .int x5)]) (d_S_stayedSilent 71 rfl) rfl rfl (by decide) rfl ?_
  refine go_goto (tgt := 5) (d_S_stayedSilent 74 rfl) (by decide) ?_
  refine go_sub (lv' := [(0, .ref (ad (0))), (1, .ref (ad (k1))), (2, .int x2), (3, .int x3), (4, .int ((x4 + 1)))]) ⟨rfl, rfl, rfl, rfl, rfl, trivial⟩ ?_
  exact hrec5 (k1) (x2) (x3) ((x4 + 1)) (v) h
def f_S_stayedSilent_5  : Nat → Nat → Int32 → Int32 → Int32 → go_V → Option go_R
  | 0, _, _, _, _, _ => none
  | n + 1, k1, x2, x3, x4, v => br (decide ((v 0 6) ≤ x4)) (some (0, x3, 0, v)) (gd (Nat.beq (go_cls (k1)) 0) (gd (go_in x4 20) (gd (go_in (v 13 x4.toNatClampNeg) 20) (ln (go_elt 12 (v 13 x4.toNatClampNeg).toNatClampNeg) (fun k_5 => gd (Nat.beq (go_cls (k_5)) 1) (br (decide (((v (k1) 3) + (v (k_5) 1)) ≤ (v 0 2))) (f_S_stayedSilent_71 (f_S_stayedSilent_5 n) (k1) (x2) (x3) (x4) (((v (k1) 3) + (v (k_5) 1))) (v)) (br (decide (x2 < ((v (k1) 3) + (v (k_5) 1)))) (f_S_stayedSilent_71 (f_S_stayedSilent_5 n) (k1) (x2) (x3) (x4) (((v (k1) 3) + (v (k_5) 1))) (v)) (gd (go_in x4 20) (bd (f_S_act k1 (v 13 x4.toNatClampNeg) ((v (k1) 3) + (v (k_5) 1)) v) (fun r_10 => nt r_10 (br (decide (r_10.2.1 = 0)) (f_S_stayedSilent_71 (f_S_stayedSilent_5 n) (k1) (x2) (x3) (x4) (((v (k1) 3) + (v (k_5) 1))) (r_10.2.2.2)) (f_S_stayedSilent_71 (f_S_stayedSilent_5 n) (k1) (x2) ((x3 + 1)) (x4) (((v (k1) 3) + (v (k_5) 1))) (r_10.2.2.2)))))))))))))
set_option maxHeartbeats 4000000 in
set_option maxRecDepth 100000 in
theorem b_S_stayedSilent_5 {l : Launch} {G : go_G} {ad : Nat → Nat} (hl : l.stackTraces = false) {r : go_R}  : ∀ (n : Nat) (k1 : Nat) (x2 : Int32) (x3 : Int32) (x4 : Int32) (v : go_V), f_S_stayedSilent_5  n k1 x2 x3 x4 v = some r → Go l G M_S_stayedSilent go_Ex0 (go_E G ad 1 r 0 0) ad v [(0, .ref (ad (0))), (1, .ref (ad (k1))), (2, .int x2), (3, .int x3), (4, .int x4)] 5 [] 0 0 := by
  intro n
  induction n with
  | zero =>
    intro k1 x2 x3 x4 v h
    cases h
  | succ n ih =>
    intro k1 x2 x3 x4 v h
    rw [f_S_stayedSilent_5] at h
    refine go_iload (d_S_stayedSilent 5 rfl) rfl ?_
    refine go_aload_n (d_S_stayedSilent 7 rfl) rfl rfl ?_
    refine go_getI (d_S_stayedSilent 8 rfl) fl_S_218 rfl rfl ?_
    rcases br_some h with ⟨c_1, h⟩ | ⟨c_1, h⟩
    · refine go_icmp_ge (tgt := 77) (d_S_stayedSilent 11 rfl) (by decide) (fun _ => ?_) (fun q => absurd (of_decide_eq_true c_1) q)
      refine go_iload_n (d_S_stayedSilent 77 rfl) rfl rfl ?_
      exact go_iret (d_S_stayedSilent 78 rfl) rfl rfl (Option.some.inj h) (by decide) (by decide)
    · refine go_icmp_ge (tgt := 77) (d_S_stayedSilent 11 rfl) (by decide) (fun q => absurd q (of_decide_eq_false c_1)) (fun _ => ?_)
      refine go_aload_n (d_S_stayedSilent 14 rfl) rfl rfl ?_
      obtain ⟨g_2, h⟩ := gd_some h
      refine go_getI (d_S_stayedSilent 15 rfl) fl_S_104 (Nat.eq_of_beq_eq_true g_2) rfl ?_
      refine go_aload_n (d_S_stayedSilent 18 rfl) rfl rfl ?_
      refine go_getR (d_S_stayedSilent 19 rfl) fl_S_16 rfl rfl ?_
      show Go _ _ _ _ _ _ _ _ _ (.ref (ad (12)) :: .int ((v (k1) 3)) :: []) _ _
      refine go_aload_n (d_S_stayedSilent 22 rfl) rfl rfl ?_
      refine go_getR (d_S_stayedSilent 23 rfl) fl_S_20 rfl rfl ?_
      show Go _ _ _ _ _ _ _ _ _ (.ref (ad (13)) :: .ref (ad (12)) :: .int ((v (k1) 3)) :: []) _ _
      refine go_iload (d_S_stayedSilent 26 rfl) rfl ?_
      obtain ⟨g_3, h⟩ := gd_some h
      refine go_iald (d_S_stayedSilent 28 rfl) rfl g_3 ?_
      obtain ⟨g_4, h⟩ := gd_some h
      obtain ⟨k_5, ek_5, h⟩ := ln_some h
      refine go_aald (c := 13) (d_S_stayedSilent 29 rfl) rfl (by decide) g_4 ?_
      rw [← ek_5]
      obtain ⟨g_6, h⟩ := gd_some h
      refine go_getI (d_S_stayedSilent 30 rfl) fl_S_221 (Nat.eq_of_beq_eq_true g_6) rfl ?_
      refine go_iadd (d_S_stayedSilent 33 rfl) ?_
      refine go_istore (lv' := [(0, .ref (ad (0))), (1, .ref (ad (k1))), (2, .int x2), (3, .int x3), (4, .int x4), (5, .int (((v (k1) 3) + (v (k_5) 1))))]) (d_S_stayedSilent 34 rfl) (by decide) rfl ?_
      refine go_iload (d_S_stayedSilent 36 rfl) rfl ?_
      refine go_aload_n (d_S_stayedSilent 38 rfl) rfl rfl ?_
      refine go_getI (d_S_stayedSilent 39 rfl) fl_S_101 rfl rfl ?_
      rcases br_some h with ⟨c_7, h⟩ | ⟨c_7, h⟩
      · refine go_icmp_le (tgt := 71) (d_S_stayedSilent 42 rfl) (by decide) (fun _ => ?_) (fun q => absurd (of_decide_eq_true c_7) q)
        exact b_S_stayedSilent_71 hl _ ih (k1) (x2) (x3) (x4) (((v (k1) 3) + (v (k_5) 1))) (v) h
      · refine go_icmp_le (tgt := 71) (d_S_stayedSilent 42 rfl) (by decide) (fun q => absurd q (of_decide_eq_false c_7)) (fun _ => ?_)
        refine go_iload (d_S_stayedSilent 45 rfl) rfl ?_
        refine go_iload_n (d_S_stayedSilent 47 rfl) rfl rfl ?_
        rcases br_some h with ⟨c_8, h⟩ | ⟨c_8, h⟩
        · refine go_icmp_gt (tgt := 71) (d_S_stayedSilent 48 rfl) (by decide) (fun _ => ?_) (fun q => absurd (of_decide_eq_true c_8) q)
          exact b_S_stayedSilent_71 hl _ ih (k1) (x2) (x3) (x4) (((v (k1) 3) + (v (k_5) 1))) (v) h
        · refine go_icmp_gt (tgt := 71) (d_S_stayedSilent 48 rfl) (by decide) (fun q => absurd q (of_decide_eq_false c_8)) (fun _ => ?_)
          refine go_aload_n (d_S_stayedSilent 51 rfl) rfl rfl ?_
          refine go_aload_n (d_S_stayedSilent 52 rfl) rfl rfl ?_
          refine go_aload_n (d_S_stayedSilent 53 rfl) rfl rfl ?_
          refine go_getR (d_S_stayedSilent 54 rfl) fl_S_20 rfl rfl ?_
          show Go _ _ _ _ _ _ _ _ _ (.ref (ad (13)) :: .ref (ad (k1)) :: .ref (ad (0)) :: []) _ _
          refine go_iload (d_S_stayedSilent 57 rfl) rfl ?_
          obtain ⟨g_9, h⟩ := gd_some h
          refine go_iald (d_S_stayedSilent 59 rfl) rfl g_9 ?_
          refine go_iload (d_S_stayedSilent 60 rfl) rfl ?_
          obtain ⟨r_10, o_11, h⟩ := bd_some h
          obtain ⟨z_12, h⟩ := nt_some h
          refine go_cV (As := [.ref (ad (k1)), .int ((v 13 x4.toNatClampNeg)), .int (((v (k1) 3) + (v (k_5) 1)))]) (rest := []) (st2 := [.int (r_10.2.1)]) (c2 := 0) (s2 := 0) rfl rfl rfl rfl (Ca_S_act hl o_11)  (d_S_stayedSilent 62 rfl) cw_S_224 ⟨w_391, w_7⟩ rfl (by decide) rfl ⟨by decide, by decide⟩ rfl (Nat.le_of_ble_eq_true rfl) ⟨by decide, by decide⟩ (fun _ => ?_) (fun q => absurd z_12 q)
          rcases br_some h with ⟨c_13, h⟩ | ⟨c_13, h⟩
          · refine go_if_eq (tgt := 71) (d_S_stayedSilent 65 rfl) (by decide) (fun _ => ?_) (fun q => absurd (of_decide_eq_true c_13) q)
            exact b_S_stayedSilent_71 hl _ ih (k1) (x2) (x3) (x4) (((v (k1) 3) + (v (k_5) 1))) (r_10.2.2.2) h
          · refine go_if_eq (tgt := 71) (d_S_stayedSilent 65 rfl) (by decide) (fun q => absurd q (of_decide_eq_false c_13)) (fun _ => ?_)
            refine go_iinc (y := (x3 + 1)) (lv' := [(0, .ref (ad (0))), (1, .ref (ad (k1))), (2, .int x2), (3, .int ((x3 + 1))), (4, .int x4), (5, .int (((v (k1) 3) + (v (k_5) 1))))]) (d_S_stayedSilent 68 rfl) rfl rfl (by decide) rfl ?_
            exact b_S_stayedSilent_71 hl _ ih (k1) (x2) ((x3 + 1)) (x4) (((v (k1) 3) + (v (k_5) 1))) (r_10.2.2.2) h
def f_S_stayedSilent (k1 : Nat) (x2 : Int32) (v : go_V) : Option go_R := f_S_stayedSilent_5  FU (k1) (x2) ((0 : Int32)) ((0 : Int32)) (v)
set_option maxHeartbeats 4000000 in
set_option maxRecDepth 100000 in
theorem Ca_S_stayedSilent {l : Launch} {G : go_G} {ad : Nat → Nat} (hl : l.stackTraces = false) {r : go_R} {k1 : Nat} {x2 : Int32} {v : go_V} (h : f_S_stayedSilent k1 x2 v = some r) : Ca l G y_S_stayedSilent (.code y_S_stayedSilent c_S_stayedSilent 6 (some .int) :: go_TT) (rmD 2 0) 1 ad [.ref (ad (0)), .ref (ad (k1)), .int x2] v r := by
  unfold f_S_stayedSilent at h
  refine go_body (own := RS) (by decide) rfl (Nat.le_of_ble_eq_true rfl) ?_
  show Go l G M_S_stayedSilent go_Ex0 (go_E G ad 1 r 0 0) ad v [(0, .ref (ad (0))), (1, .ref (ad (k1))), (2, .int x2)] 0 [] 0 0
  refine go_iconst (x := (0 : Int32)) (d_S_stayedSilent 0 rfl) (by decide) ?_
  refine go_istore_n (lv' := [(0, .ref (ad (0))), (1, .ref (ad (k1))), (2, .int x2), (3, .int ((0 : Int32)))]) (d_S_stayedSilent 1 rfl) rfl (by decide) rfl ?_
  refine go_iconst (x := (0 : Int32)) (d_S_stayedSilent 2 rfl) (by decide) ?_
  refine go_istore (lv' := [(0, .ref (ad (0))), (1, .ref (ad (k1))), (2, .int x2), (3, .int ((0 : Int32))), (4, .int ((0 : Int32)))]) (d_S_stayedSilent 3 rfl) (by decide) rfl ?_
  exact b_S_stayedSilent_5 hl  FU (k1) (x2) ((0 : Int32)) ((0 : Int32)) (v) h
abbrev M_S_hasTriggerForWord : go_M := (c_S_hasTriggerForWord, 3, (some .boolean), RS, [], rmD 1 0)
def f_S_hasTriggerForWord_2  : Nat → Int32 → Int32 → go_V → Option go_R
  | 0, _, _, _ => none
  | n + 1, x1, x2, v => br (decide ((v 0 4) ≤ x2)) (some (0, (0 : Int32), 0, v)) (gd (go_in x2 20) (ln (go_elt 12 x2.toNatClampNeg) (fun k_3 => gd (Nat.beq (go_cls (k_3)) 1) (bd (f_T_isFor k_3 (0 : Int32) x1 x1 v) (fun r_4 => nt r_4 (br (decide (r_4.2.1 = 0)) (f_S_hasTriggerForWord_2 n (x1) ((x2 + 1)) (r_4.2.2.2)) (some (0, (1 : Int32), 0, r_4.2.2.2))))))))
set_option maxHeartbeats 4000000 in
set_option maxRecDepth 100000 in
theorem b_S_hasTriggerForWord_2 {l : Launch} {G : go_G} {ad : Nat → Nat} (hl : l.stackTraces = false) {r : go_R}  : ∀ (n : Nat) (x1 : Int32) (x2 : Int32) (v : go_V), f_S_hasTriggerForWord_2  n x1 x2 v = some r → Go l G M_S_hasTriggerForWord go_Ex0 (go_E G ad 1 r 0 0) ad v [(0, .ref (ad (0))), (1, .int x1), (2, .int x2)] 2 [] 0 0 := by
  intro n
  induction n with
  | zero =>
    intro x1 x2 v h
    cases h
  | succ n ih =>
    intro x1 x2 v h
    rw [f_S_hasTriggerForWord_2] at h
    refine go_iload_n (d_S_hasTriggerForWord 2 rfl) rfl rfl ?_
    refine go_aload_n (d_S_hasTriggerForWord 3 rfl) rfl rfl ?_
    refine go_getI (d_S_hasTriggerForWord 4 rfl) fl_S_77 rfl rfl ?_
    rcases br_some h with ⟨c_1, h⟩ | ⟨c_1, h⟩
    · refine go_icmp_ge (tgt := 33) (d_S_hasTriggerForWord 7 rfl) (by decide) (fun _ => ?_) (fun q => absurd (of_decide_eq_true c_1) q)
      refine go_iconst (x := (0 : Int32)) (d_S_hasTriggerForWord 33 rfl) (by decide) ?_
      exact go_iret (d_S_hasTriggerForWord 34 rfl) rfl (by decide) (Option.some.inj h) (by decide) (by decide)
    · refine go_icmp_ge (tgt := 33) (d_S_hasTriggerForWord 7 rfl) (by decide) (fun q => absurd q (of_decide_eq_false c_1)) (fun _ => ?_)
      refine go_aload_n (d_S_hasTriggerForWord 10 rfl) rfl rfl ?_
      refine go_getR (d_S_hasTriggerForWord 11 rfl) fl_S_16 rfl rfl ?_
      show Go _ _ _ _ _ _ _ _ _ (.ref (ad (12)) :: []) _ _
      refine go_iload_n (d_S_hasTriggerForWord 14 rfl) rfl rfl ?_
      obtain ⟨g_2, h⟩ := gd_some h
      obtain ⟨k_3, ek_3, h⟩ := ln_some h
      refine go_aald (c := 13) (d_S_hasTriggerForWord 15 rfl) rfl (by decide) g_2 ?_
      rw [← ek_3]
      refine go_iconst (x := (0 : Int32)) (d_S_hasTriggerForWord 16 rfl) (by decide) ?_
      refine go_iload_n (d_S_hasTriggerForWord 17 rfl) rfl rfl ?_
      refine go_iload_n (d_S_hasTriggerForWord 18 rfl) rfl rfl ?_
      obtain ⟨g_7, h⟩ := gd_some h
      obtain ⟨r_4, o_5, h⟩ := bd_some h
      obtain ⟨z_6, h⟩ := nt_some h
      refine go_cN (As := [.int ((0 : Int32)), .int x1, .int x1]) (rest := []) (st2 := [.int (r_4.2.1)]) (c2 := 0) (s2 := 0) rfl rfl rfl rfl (Ca_T_isFor hl o_5) z_6 (d_S_hasTriggerForWord 19 rfl) cw_S_214 ⟨w_413, w_10⟩ (Nat.eq_of_beq_eq_true g_7) (by decide) rfl ⟨by decide, by decide⟩ rfl (Nat.le_of_ble_eq_true rfl) ⟨by decide, by decide⟩ ?_
      rcases br_some h with ⟨c_8, h⟩ | ⟨c_8, h⟩
      · refine go_if_eq (tgt := 27) (d_S_hasTriggerForWord 22 rfl) (by decide) (fun _ => ?_) (fun q => absurd (of_decide_eq_true c_8) q)
        refine go_iinc (y := (x2 + 1)) (lv' := [(0, .ref (ad (0))), (1, .int x1), (2, .int ((x2 + 1)))]) (d_S_hasTriggerForWord 27 rfl) rfl rfl (by decide) rfl ?_
        refine go_goto (tgt := 2) (d_S_hasTriggerForWord 30 rfl) (by decide) ?_
        exact ih (x1) ((x2 + 1)) (r_4.2.2.2) h
      · refine go_if_eq (tgt := 27) (d_S_hasTriggerForWord 22 rfl) (by decide) (fun q => absurd q (of_decide_eq_false c_8)) (fun _ => ?_)
        refine go_iconst (x := (1 : Int32)) (d_S_hasTriggerForWord 25 rfl) (by decide) ?_
        exact go_iret (d_S_hasTriggerForWord 26 rfl) rfl (by decide) (Option.some.inj h) (by decide) (by decide)
def f_S_hasTriggerForWord (x1 : Int32) (v : go_V) : Option go_R := f_S_hasTriggerForWord_2  FU (x1) ((0 : Int32)) (v)
set_option maxHeartbeats 4000000 in
set_option maxRecDepth 100000 in
theorem Ca_S_hasTriggerForWord {l : Launch} {G : go_G} {ad : Nat → Nat} (hl : l.stackTraces = false) {r : go_R} {x1 : Int32} {v : go_V} (h : f_S_hasTriggerForWord x1 v = some r) : Ca l G y_S_hasTriggerForWord (.code y_S_hasTriggerForWord c_S_hasTriggerForWord 3 (some .boolean) :: go_TT) (rmD 1 0) 1 ad [.ref (ad (0)), .int x1] v r := by
  unfold f_S_hasTriggerForWord at h
  refine go_body (own := RS) (by decide) rfl (Nat.le_of_ble_eq_true rfl) ?_
  show Go l G M_S_hasTriggerForWord go_Ex0 (go_E G ad 1 r 0 0) ad v [(0, .ref (ad (0))), (1, .int x1)] 0 [] 0 0
  refine go_iconst (x := (0 : Int32)) (d_S_hasTriggerForWord 0 rfl) (by decide) ?_
  refine go_istore_n (lv' := [(0, .ref (ad (0))), (1, .int x1), (2, .int ((0 : Int32)))]) (d_S_hasTriggerForWord 1 rfl) rfl (by decide) rfl ?_
  exact b_S_hasTriggerForWord_2 hl  FU (x1) ((0 : Int32)) (v) h
abbrev M_S_happened : go_M := (c_S_happened, 7, (some .int), RS, [], rmD 2 0)
def f_S_happened_49 (rec6 : Nat → Int32 → Int32 → Int32 → Int32 → Int32 → go_V → Option go_R) (k1 : Nat) (x2 : Int32) (x3 : Int32) (x4 : Int32) (x5 : Int32) (x6 : Int32) (v : go_V) : Option go_R := rec6 (k1) (x2) (x3) (x4) (x5) ((x6 + 1)) (v)
set_option maxHeartbeats 4000000 in
set_option maxRecDepth 100000 in
theorem b_S_happened_49 {l : Launch} {G : go_G} {ad : Nat → Nat} (hl : l.stackTraces = false) {r : go_R} (rec6 : Nat → Int32 → Int32 → Int32 → Int32 → Int32 → go_V → Option go_R) (hrec6 : ∀ (k1 : Nat) (x2 : Int32) (x3 : Int32) (x4 : Int32) (x5 : Int32) (x6 : Int32) (v : go_V), rec6 k1 x2 x3 x4 x5 x6 v = some r → Go l G M_S_happened go_Ex0 (go_E G ad 1 r 0 0) ad v [(0, .ref (ad (0))), (1, .ref (ad (k1))), (2, .int x2), (3, .int x3), (4, .int x4), (5, .int x5), (6, .int x6)] 6 [] 0 0) (k1 : Nat) (x2 : Int32) (x3 : Int32) (x4 : Int32) (x5 : Int32) (x6 : Int32) (v : go_V) (h : f_S_happened_49 rec6 k1 x2 x3 x4 x5 x6 v = some r) : Go l G M_S_happened go_Ex0 (go_E G ad 1 r 0 0) ad v [(0, .ref (ad (0))), (1, .ref (ad (k1))), (2, .int x2), (3, .int x3), (4, .int x4), (5, .int x5), (6, .int x6)] 49 [] 0 0 := by
  unfold f_S_happened_49 at h
  refine go_iinc (y := (x6 + 1)) (lv' := [(0, .ref (ad (0))), (1, .ref (ad (k1))), (2, .int x2), (3, .int x3), (4, .int x4), (5, .int x5), (6, .int ((x6 + 1)))]) (d_S_happened 49 rfl) rfl rfl (by decide) rfl ?_
  refine go_goto (tgt := 6) (d_S_happened 52 rfl) (by decide) ?_
  exact hrec6 (k1) (x2) (x3) (x4) (x5) ((x6 + 1)) (v) h
def f_S_happened_6  : Nat → Nat → Int32 → Int32 → Int32 → Int32 → Int32 → go_V → Option go_R
  | 0, _, _, _, _, _, _, _ => none
  | n + 1, k1, x2, x3, x4, x5, x6, v => br (decide ((v 0 4) ≤ x6)) (some (0, x5, 0, v)) (gd (go_in x6 20) (ln (go_elt 12 x6.toNatClampNeg) (fun k_3 => gd (Nat.beq (go_cls (k_3)) 1) (bd (f_T_isFor k_3 x2 x3 x4 v) (fun r_4 => nt r_4 (br (decide (r_4.2.1 = 0)) (f_S_happened_49 (f_S_happened_6 n) (k1) (x2) (x3) (x4) (x5) (x6) (r_4.2.2.2)) (bd (f_S_act k1 x6 (r_4.2.2.2 0 2) r_4.2.2.2) (fun r_9 => nt r_9 (br (decide (r_9.2.1 = 0)) (f_S_happened_49 (f_S_happened_6 n) (k1) (x2) (x3) (x4) (x5) (x6) (r_9.2.2.2)) (f_S_happened_49 (f_S_happened_6 n) (k1) (x2) (x3) (x4) ((x5 + 1)) (x6) (r_9.2.2.2)))))))))))
set_option maxHeartbeats 4000000 in
set_option maxRecDepth 100000 in
theorem b_S_happened_6 {l : Launch} {G : go_G} {ad : Nat → Nat} (hl : l.stackTraces = false) {r : go_R}  : ∀ (n : Nat) (k1 : Nat) (x2 : Int32) (x3 : Int32) (x4 : Int32) (x5 : Int32) (x6 : Int32) (v : go_V), f_S_happened_6  n k1 x2 x3 x4 x5 x6 v = some r → Go l G M_S_happened go_Ex0 (go_E G ad 1 r 0 0) ad v [(0, .ref (ad (0))), (1, .ref (ad (k1))), (2, .int x2), (3, .int x3), (4, .int x4), (5, .int x5), (6, .int x6)] 6 [] 0 0 := by
  intro n
  induction n with
  | zero =>
    intro k1 x2 x3 x4 x5 x6 v h
    cases h
  | succ n ih =>
    intro k1 x2 x3 x4 x5 x6 v h
    rw [f_S_happened_6] at h
    refine go_iload (d_S_happened 6 rfl) rfl ?_
    refine go_aload_n (d_S_happened 8 rfl) rfl rfl ?_
    refine go_getI (d_S_happened 9 rfl) fl_S_77 rfl rfl ?_
    rcases br_some h with ⟨c_1, h⟩ | ⟨c_1, h⟩
    · refine go_icmp_ge (tgt := 55) (d_S_happened 12 rfl) (by decide) (fun _ => ?_) (fun q => absurd (of_decide_eq_true c_1) q)
      refine go_iload (d_S_happened 55 rfl) rfl ?_
      exact go_iret (d_S_happened 57 rfl) rfl rfl (Option.some.inj h) (by decide) (by decide)
    · refine go_icmp_ge (tgt := 55) (d_S_happened 12 rfl) (by decide) (fun q => absurd q (of_decide_eq_false c_1)) (fun _ => ?_)
      refine go_aload_n (d_S_happened 15 rfl) rfl rfl ?_
      refine go_getR (d_S_happened 16 rfl) fl_S_16 rfl rfl ?_
      show Go _ _ _ _ _ _ _ _ _ (.ref (ad (12)) :: []) _ _
      refine go_iload (d_S_happened 19 rfl) rfl ?_
      obtain ⟨g_2, h⟩ := gd_some h
      obtain ⟨k_3, ek_3, h⟩ := ln_some h
      refine go_aald (c := 13) (d_S_happened 21 rfl) rfl (by decide) g_2 ?_
      rw [← ek_3]
      refine go_iload_n (d_S_happened 22 rfl) rfl rfl ?_
      refine go_iload_n (d_S_happened 23 rfl) rfl rfl ?_
      refine go_iload (d_S_happened 24 rfl) rfl ?_
      obtain ⟨g_7, h⟩ := gd_some h
      obtain ⟨r_4, o_5, h⟩ := bd_some h
      obtain ⟨z_6, h⟩ := nt_some h
      refine go_cN (As := [.int x2, .int x3, .int x4]) (rest := []) (st2 := [.int (r_4.2.1)]) (c2 := 0) (s2 := 0) rfl rfl rfl rfl (Ca_T_isFor hl o_5) z_6 (d_S_happened 26 rfl) cw_S_214 ⟨w_413, w_10⟩ (Nat.eq_of_beq_eq_true g_7) (by decide) rfl ⟨by decide, by decide⟩ rfl (Nat.le_of_ble_eq_true rfl) ⟨by decide, by decide⟩ ?_
      rcases br_some h with ⟨c_8, h⟩ | ⟨c_8, h⟩
      · refine go_if_eq (tgt := 49) (d_S_happened 29 rfl) (by decide) (fun _ => ?_) (fun q => absurd (of_decide_eq_true c_8) q)
        exact b_S_happened_49 hl _ ih (k1) (x2) (x3) (x4) (x5) (x6) (r_4.2.2.2) h
      · refine go_if_eq (tgt := 49) (d_S_happened 29 rfl) (by decide) (fun q => absurd q (of_decide_eq_false c_8)) (fun _ => ?_)
        refine go_aload_n (d_S_happened 32 rfl) rfl rfl ?_
        refine go_aload_n (d_S_happened 33 rfl) rfl rfl ?_
        refine go_iload (d_S_happened 34 rfl) rfl ?_
        refine go_aload_n (d_S_happened 36 rfl) rfl rfl ?_
        refine go_getI (d_S_happened 37 rfl) fl_S_101 rfl rfl ?_
        obtain ⟨r_9, o_10, h⟩ := bd_some h
        obtain ⟨z_11, h⟩ := nt_some h
        refine go_cV (As := [.ref (ad (k1)), .int x6, .int ((r_4.2.2.2 0 2))]) (rest := []) (st2 := [.int (r_9.2.1)]) (c2 := 0) (s2 := 0) rfl rfl rfl rfl (Ca_S_act hl o_10)  (d_S_happened 40 rfl) cw_S_224 ⟨w_391, w_7⟩ rfl (by decide) rfl ⟨by decide, by decide⟩ rfl (Nat.le_of_ble_eq_true rfl) ⟨by decide, by decide⟩ (fun _ => ?_) (fun q => absurd z_11 q)
        rcases br_some h with ⟨c_12, h⟩ | ⟨c_12, h⟩
        · refine go_if_eq (tgt := 49) (d_S_happened 43 rfl) (by decide) (fun _ => ?_) (fun q => absurd (of_decide_eq_true c_12) q)
          exact b_S_happened_49 hl _ ih (k1) (x2) (x3) (x4) (x5) (x6) (r_9.2.2.2) h
        · refine go_if_eq (tgt := 49) (d_S_happened 43 rfl) (by decide) (fun q => absurd q (of_decide_eq_false c_12)) (fun _ => ?_)
          refine go_iinc (y := (x5 + 1)) (lv' := [(0, .ref (ad (0))), (1, .ref (ad (k1))), (2, .int x2), (3, .int x3), (4, .int x4), (5, .int ((x5 + 1))), (6, .int x6)]) (d_S_happened 46 rfl) rfl rfl (by decide) rfl ?_
          exact b_S_happened_49 hl _ ih (k1) (x2) (x3) (x4) ((x5 + 1)) (x6) (r_9.2.2.2) h
def f_S_happened (k1 : Nat) (x2 : Int32) (x3 : Int32) (x4 : Int32) (v : go_V) : Option go_R := f_S_happened_6  FU (k1) (x2) (x3) (x4) ((0 : Int32)) ((0 : Int32)) (v)
set_option maxHeartbeats 4000000 in
set_option maxRecDepth 100000 in
theorem Ca_S_happened {l : Launch} {G : go_G} {ad : Nat → Nat} (hl : l.stackTraces = false) {r : go_R} {k1 : Nat} {x2 : Int32} {x3 : Int32} {x4 : Int32} {v : go_V} (h : f_S_happened k1 x2 x3 x4 v = some r) : Ca l G y_S_happened (.code y_S_happened c_S_happened 7 (some .int) :: go_TT) (rmD 2 0) 1 ad [.ref (ad (0)), .ref (ad (k1)), .int x2, .int x3, .int x4] v r := by
  unfold f_S_happened at h
  refine go_body (own := RS) (by decide) rfl (Nat.le_of_ble_eq_true rfl) ?_
  show Go l G M_S_happened go_Ex0 (go_E G ad 1 r 0 0) ad v [(0, .ref (ad (0))), (1, .ref (ad (k1))), (2, .int x2), (3, .int x3), (4, .int x4)] 0 [] 0 0
  refine go_iconst (x := (0 : Int32)) (d_S_happened 0 rfl) (by decide) ?_
  refine go_istore (lv' := [(0, .ref (ad (0))), (1, .ref (ad (k1))), (2, .int x2), (3, .int x3), (4, .int x4), (5, .int ((0 : Int32)))]) (d_S_happened 1 rfl) (by decide) rfl ?_
  refine go_iconst (x := (0 : Int32)) (d_S_happened 3 rfl) (by decide) ?_
  refine go_istore (lv' := [(0, .ref (ad (0))), (1, .ref (ad (k1))), (2, .int x2), (3, .int x3), (4, .int x4), (5, .int ((0 : Int32))), (6, .int ((0 : Int32)))]) (d_S_happened 4 rfl) (by decide) rfl ?_
  exact b_S_happened_6 hl  FU (k1) (x2) (x3) (x4) ((0 : Int32)) ((0 : Int32)) (v) h
abbrev M_S_unitsFor : go_M := (c_S_unitsFor, 5, (some .int), RS, [], rmD 1 0)
def f_S_unitsFor_32 (rec5 : Int32 → Int32 → Int32 → Int32 → go_V → Option go_R) (x1 : Int32) (x2 : Int32) (x3 : Int32) (x4 : Int32) (v : go_V) : Option go_R := rec5 (x1) (x2) (x3) ((x4 + 1)) (v)
set_option maxHeartbeats 4000000 in
set_option maxRecDepth 100000 in
theorem b_S_unitsFor_32 {l : Launch} {G : go_G} {ad : Nat → Nat} (hl : l.stackTraces = false) {r : go_R} (rec5 : Int32 → Int32 → Int32 → Int32 → go_V → Option go_R) (hrec5 : ∀ (x1 : Int32) (x2 : Int32) (x3 : Int32) (x4 : Int32) (v : go_V), rec5 x1 x2 x3 x4 v = some r → Go l G M_S_unitsFor go_Ex0 (go_E G ad 1 r 0 0) ad v [(0, .ref (ad (0))), (1, .int x1), (2, .int x2), (3, .int x3), (4, .int x4)] 5 [] 0 0) (x1 : Int32) (x2 : Int32) (x3 : Int32) (x4 : Int32) (v : go_V) (h : f_S_unitsFor_32 rec5 x1 x2 x3 x4 v = some r) : Go l G M_S_unitsFor go_Ex0 (go_E G ad 1 r 0 0) ad v [(0, .ref (ad (0))), (1, .int x1), (2, .int x2), (3, .int x3), (4, .int x4)] 32 [] 0 0 := by
  unfold f_S_unitsFor_32 at h
  refine go_iinc (y := (x4 + 1)) (lv' := [(0, .ref (ad (0))), (1, .int x1), (2, .int x2), (3, .int x3), (4, .int ((x4 + 1)))]) (d_S_unitsFor 32 rfl) rfl rfl (by decide) rfl ?_
  refine go_goto (tgt := 5) (d_S_unitsFor 35 rfl) (by decide) ?_
  exact hrec5 (x1) (x2) (x3) ((x4 + 1)) (v) h
def f_S_unitsFor_5  : Nat → Int32 → Int32 → Int32 → Int32 → go_V → Option go_R
  | 0, _, _, _, _, _ => none
  | n + 1, x1, x2, x3, x4, v => br (decide ((v 0 10) ≤ x4)) (some (0, x3, 0, v)) (gd (go_in x4 40) (ln (go_elt 15 x4.toNatClampNeg) (fun k_3 => gd (Nat.beq (go_cls (k_3)) 2) (bd (f_U_isFor k_3 x1 x2 v) (fun r_4 => nt r_4 (br (decide (r_4.2.1 = 0)) (f_S_unitsFor_32 (f_S_unitsFor_5 n) (x1) (x2) (x3) (x4) (r_4.2.2.2)) (f_S_unitsFor_32 (f_S_unitsFor_5 n) (x1) (x2) ((x3 + 1)) (x4) (r_4.2.2.2))))))))
set_option maxHeartbeats 4000000 in
set_option maxRecDepth 100000 in
theorem b_S_unitsFor_5 {l : Launch} {G : go_G} {ad : Nat → Nat} (hl : l.stackTraces = false) {r : go_R}  : ∀ (n : Nat) (x1 : Int32) (x2 : Int32) (x3 : Int32) (x4 : Int32) (v : go_V), f_S_unitsFor_5  n x1 x2 x3 x4 v = some r → Go l G M_S_unitsFor go_Ex0 (go_E G ad 1 r 0 0) ad v [(0, .ref (ad (0))), (1, .int x1), (2, .int x2), (3, .int x3), (4, .int x4)] 5 [] 0 0 := by
  intro n
  induction n with
  | zero =>
    intro x1 x2 x3 x4 v h
    cases h
  | succ n ih =>
    intro x1 x2 x3 x4 v h
    rw [f_S_unitsFor_5] at h
    refine go_iload (d_S_unitsFor 5 rfl) rfl ?_
    refine go_aload_n (d_S_unitsFor 7 rfl) rfl rfl ?_
    refine go_getI (d_S_unitsFor 8 rfl) fl_S_115 rfl rfl ?_
    rcases br_some h with ⟨c_1, h⟩ | ⟨c_1, h⟩
    · refine go_icmp_ge (tgt := 38) (d_S_unitsFor 11 rfl) (by decide) (fun _ => ?_) (fun q => absurd (of_decide_eq_true c_1) q)
      refine go_iload_n (d_S_unitsFor 38 rfl) rfl rfl ?_
      exact go_iret (d_S_unitsFor 39 rfl) rfl rfl (Option.some.inj h) (by decide) (by decide)
    · refine go_icmp_ge (tgt := 38) (d_S_unitsFor 11 rfl) (by decide) (fun q => absurd q (of_decide_eq_false c_1)) (fun _ => ?_)
      refine go_aload_n (d_S_unitsFor 14 rfl) rfl rfl ?_
      refine go_getR (d_S_unitsFor 15 rfl) fl_S_32 rfl rfl ?_
      show Go _ _ _ _ _ _ _ _ _ (.ref (ad (15)) :: []) _ _
      refine go_iload (d_S_unitsFor 18 rfl) rfl ?_
      obtain ⟨g_2, h⟩ := gd_some h
      obtain ⟨k_3, ek_3, h⟩ := ln_some h
      refine go_aald (c := 15) (d_S_unitsFor 20 rfl) rfl (by decide) g_2 ?_
      rw [← ek_3]
      refine go_iload_n (d_S_unitsFor 21 rfl) rfl rfl ?_
      refine go_iload_n (d_S_unitsFor 22 rfl) rfl rfl ?_
      obtain ⟨g_7, h⟩ := gd_some h
      obtain ⟨r_4, o_5, h⟩ := bd_some h
      obtain ⟨z_6, h⟩ := nt_some h
      refine go_cN (As := [.int x1, .int x2]) (rest := []) (st2 := [.int (r_4.2.1)]) (c2 := 0) (s2 := 0) rfl rfl rfl rfl (Ca_U_isFor hl o_5) z_6 (d_S_unitsFor 23 rfl) cw_S_244 ⟨w_458, w_14⟩ (Nat.eq_of_beq_eq_true g_7) (by decide) rfl ⟨by decide, by decide⟩ rfl (Nat.le_of_ble_eq_true rfl) ⟨by decide, by decide⟩ ?_
      rcases br_some h with ⟨c_8, h⟩ | ⟨c_8, h⟩
      · refine go_if_eq (tgt := 32) (d_S_unitsFor 26 rfl) (by decide) (fun _ => ?_) (fun q => absurd (of_decide_eq_true c_8) q)
        exact b_S_unitsFor_32 hl _ ih (x1) (x2) (x3) (x4) (r_4.2.2.2) h
      · refine go_if_eq (tgt := 32) (d_S_unitsFor 26 rfl) (by decide) (fun q => absurd q (of_decide_eq_false c_8)) (fun _ => ?_)
        refine go_iinc (y := (x3 + 1)) (lv' := [(0, .ref (ad (0))), (1, .int x1), (2, .int x2), (3, .int ((x3 + 1))), (4, .int x4)]) (d_S_unitsFor 29 rfl) rfl rfl (by decide) rfl ?_
        exact b_S_unitsFor_32 hl _ ih (x1) (x2) ((x3 + 1)) (x4) (r_4.2.2.2) h
def f_S_unitsFor (x1 : Int32) (x2 : Int32) (v : go_V) : Option go_R := f_S_unitsFor_5  FU (x1) (x2) ((0 : Int32)) ((0 : Int32)) (v)
set_option maxHeartbeats 4000000 in
set_option maxRecDepth 100000 in
theorem Ca_S_unitsFor {l : Launch} {G : go_G} {ad : Nat → Nat} (hl : l.stackTraces = false) {r : go_R} {x1 : Int32} {x2 : Int32} {v : go_V} (h : f_S_unitsFor x1 x2 v = some r) : Ca l G y_S_unitsFor (.code y_S_unitsFor c_S_unitsFor 5 (some .int) :: go_TT) (rmD 1 0) 1 ad [.ref (ad (0)), .int x1, .int x2] v r := by
  unfold f_S_unitsFor at h
  refine go_body (own := RS) (by decide) rfl (Nat.le_of_ble_eq_true rfl) ?_
  show Go l G M_S_unitsFor go_Ex0 (go_E G ad 1 r 0 0) ad v [(0, .ref (ad (0))), (1, .int x1), (2, .int x2)] 0 [] 0 0
  refine go_iconst (x := (0 : Int32)) (d_S_unitsFor 0 rfl) (by decide) ?_
  refine go_istore_n (lv' := [(0, .ref (ad (0))), (1, .int x1), (2, .int x2), (3, .int ((0 : Int32)))]) (d_S_unitsFor 1 rfl) rfl (by decide) rfl ?_
  refine go_iconst (x := (0 : Int32)) (d_S_unitsFor 2 rfl) (by decide) ?_
  refine go_istore (lv' := [(0, .ref (ad (0))), (1, .int x1), (2, .int x2), (3, .int ((0 : Int32))), (4, .int ((0 : Int32)))]) (d_S_unitsFor 3 rfl) (by decide) rfl ?_
  exact b_S_unitsFor_5 hl  FU (x1) (x2) ((0 : Int32)) ((0 : Int32)) (v) h
abbrev M_S_recallOne : go_M := (c_S_recallOne, 5, none, RS, [], rmD 1 0)
def f_S_recallOne_56 (rec5 : Int32 → Int32 → Int32 → Int32 → go_V → Option go_R) (x1 : Int32) (x2 : Int32) (x3 : Int32) (x4 : Int32) (v : go_V) : Option go_R := rec5 (x1) (x2) (x3) ((x4 + 1)) (v)
set_option maxHeartbeats 4000000 in
set_option maxRecDepth 100000 in
theorem b_S_recallOne_56 {l : Launch} {G : go_G} {ad : Nat → Nat} (hl : l.stackTraces = false) {r : go_R} (rec5 : Int32 → Int32 → Int32 → Int32 → go_V → Option go_R) (hrec5 : ∀ (x1 : Int32) (x2 : Int32) (x3 : Int32) (x4 : Int32) (v : go_V), rec5 x1 x2 x3 x4 v = some r → Go l G M_S_recallOne go_Ex0 (go_E G ad 0 r 0 0) ad v [(0, .ref (ad (0))), (1, .int x1), (2, .int x2), (3, .int x3), (4, .int x4)] 5 [] 0 0) (x1 : Int32) (x2 : Int32) (x3 : Int32) (x4 : Int32) (v : go_V) (h : f_S_recallOne_56 rec5 x1 x2 x3 x4 v = some r) : Go l G M_S_recallOne go_Ex0 (go_E G ad 0 r 0 0) ad v [(0, .ref (ad (0))), (1, .int x1), (2, .int x2), (3, .int x3), (4, .int x4)] 56 [] 0 0 := by
  unfold f_S_recallOne_56 at h
  refine go_iinc (y := (x4 + 1)) (lv' := [(0, .ref (ad (0))), (1, .int x1), (2, .int x2), (3, .int x3), (4, .int ((x4 + 1)))]) (d_S_recallOne 56 rfl) rfl rfl (by decide) rfl ?_
  refine go_goto (tgt := 5) (d_S_recallOne 59 rfl) (by decide) ?_
  exact hrec5 (x1) (x2) (x3) ((x4 + 1)) (v) h
def f_S_recallOne_53 (rec5 : Int32 → Int32 → Int32 → Int32 → go_V → Option go_R) (x1 : Int32) (x2 : Int32) (x3 : Int32) (x4 : Int32) (v : go_V) : Option go_R := f_S_recallOne_56 (rec5) (x1) (x2) (x4) (x4) (v)
set_option maxHeartbeats 4000000 in
set_option maxRecDepth 100000 in
theorem b_S_recallOne_53 {l : Launch} {G : go_G} {ad : Nat → Nat} (hl : l.stackTraces = false) {r : go_R} (rec5 : Int32 → Int32 → Int32 → Int32 → go_V → Option go_R) (hrec5 : ∀ (x1 : Int32) (x2 : Int32) (x3 : Int32) (x4 : Int32) (v : go_V), rec5 x1 x2 x3 x4 v = some r → Go l G M_S_recallOne go_Ex0 (go_E G ad 0 r 0 0) ad v [(0, .ref (ad (0))), (1, .int x1), (2, .int x2), (3, .int x3), (4, .int x4)] 5 [] 0 0) (x1 : Int32) (x2 : Int32) (x3 : Int32) (x4 : Int32) (v : go_V) (h : f_S_recallOne_53 rec5 x1 x2 x3 x4 v = some r) : Go l G M_S_recallOne go_Ex0 (go_E G ad 0 r 0 0) ad v [(0, .ref (ad (0))), (1, .int x1), (2, .int x2), (3, .int x3), (4, .int x4)] 53 [] 0 0 := by
  unfold f_S_recallOne_53 at h
  refine go_iload (d_S_recallOne 53 rfl) rfl ?_
  refine go_istore_n (lv' := [(0, .ref (ad (0))), (1, .int x1), (2, .int x2), (3, .int x4), (4, .int x4)]) (d_S_recallOne 55 rfl) rfl (by decide) rfl ?_
  exact b_S_recallOne_56 hl _ hrec5 (x1) (x2) (x4) (x4) (v) h
def f_S_recallOne_5  : Nat → Int32 → Int32 → Int32 → Int32 → go_V → Option go_R
  | 0, _, _, _, _, _ => none
  | n + 1, x1, x2, x3, x4, v => br (decide ((v 0 10) ≤ x4)) (br (decide (x3 = ((-1) : Int32))) (some (0, 0, 0, v)) (gd (go_in x3 40) (ln (go_elt 15 x3.toNatClampNeg) (fun k_4 => gd (Nat.beq (go_cls (k_4)) 2) (bd (f_U_setFree k_4 v) (fun r_5 => nt r_5 (some (0, 0, 0, r_5.2.2.2)))))))) (gd (go_in x4 40) (ln (go_elt 15 x4.toNatClampNeg) (fun k_10 => gd (Nat.beq (go_cls (k_10)) 2) (bd (f_U_isFor k_10 x1 x2 v) (fun r_11 => nt r_11 (br (decide (r_11.2.1 = 0)) (f_S_recallOne_56 (f_S_recallOne_5 n) (x1) (x2) (x3) (x4) (r_11.2.2.2)) (br (decide (x3 = ((-1) : Int32))) (f_S_recallOne_53 (f_S_recallOne_5 n) (x1) (x2) (x3) (x4) (r_11.2.2.2)) (gd (go_in x4 40) (ln (go_elt 15 x4.toNatClampNeg) (fun k_18 => gd (go_in x3 40) (ln (go_elt 15 x3.toNatClampNeg) (fun k_20 => gd (Nat.beq (go_cls (k_18)) 2) (bd (f_U_goesBackBefore k_18 k_20 r_11.2.2.2) (fun r_21 => nt r_21 (br (decide (r_21.2.1 = 0)) (f_S_recallOne_56 (f_S_recallOne_5 n) (x1) (x2) (x3) (x4) (r_21.2.2.2)) (f_S_recallOne_53 (f_S_recallOne_5 n) (x1) (x2) (x3) (x4) (r_21.2.2.2)))))))))))))))))
set_option maxHeartbeats 4000000 in
set_option maxRecDepth 100000 in
theorem b_S_recallOne_5 {l : Launch} {G : go_G} {ad : Nat → Nat} (hl : l.stackTraces = false) {r : go_R}  : ∀ (n : Nat) (x1 : Int32) (x2 : Int32) (x3 : Int32) (x4 : Int32) (v : go_V), f_S_recallOne_5  n x1 x2 x3 x4 v = some r → Go l G M_S_recallOne go_Ex0 (go_E G ad 0 r 0 0) ad v [(0, .ref (ad (0))), (1, .int x1), (2, .int x2), (3, .int x3), (4, .int x4)] 5 [] 0 0 := by
  intro n
  induction n with
  | zero =>
    intro x1 x2 x3 x4 v h
    cases h
  | succ n ih =>
    intro x1 x2 x3 x4 v h
    rw [f_S_recallOne_5] at h
    refine go_iload (d_S_recallOne 5 rfl) rfl ?_
    refine go_aload_n (d_S_recallOne 7 rfl) rfl rfl ?_
    refine go_getI (d_S_recallOne 8 rfl) fl_S_115 rfl rfl ?_
    rcases br_some h with ⟨c_1, h⟩ | ⟨c_1, h⟩
    · refine go_icmp_ge (tgt := 62) (d_S_recallOne 11 rfl) (by decide) (fun _ => ?_) (fun q => absurd (of_decide_eq_true c_1) q)
      refine go_iload_n (d_S_recallOne 62 rfl) rfl rfl ?_
      refine go_iconst (x := ((-1) : Int32)) (d_S_recallOne 63 rfl) (by decide) ?_
      rcases br_some h with ⟨c_2, h⟩ | ⟨c_2, h⟩
      · refine go_icmp_eq (tgt := 76) (d_S_recallOne 64 rfl) (by decide) (fun _ => ?_) (fun q => absurd (of_decide_eq_true c_2) q)
        exact go_vret (d_S_recallOne 76 rfl) rfl (Option.some.inj h) (by decide) (by decide)
      · refine go_icmp_eq (tgt := 76) (d_S_recallOne 64 rfl) (by decide) (fun q => absurd q (of_decide_eq_false c_2)) (fun _ => ?_)
        refine go_aload_n (d_S_recallOne 67 rfl) rfl rfl ?_
        refine go_getR (d_S_recallOne 68 rfl) fl_S_32 rfl rfl ?_
        show Go _ _ _ _ _ _ _ _ _ (.ref (ad (15)) :: []) _ _
        refine go_iload_n (d_S_recallOne 71 rfl) rfl rfl ?_
        obtain ⟨g_3, h⟩ := gd_some h
        obtain ⟨k_4, ek_4, h⟩ := ln_some h
        refine go_aald (c := 15) (d_S_recallOne 72 rfl) rfl (by decide) g_3 ?_
        rw [← ek_4]
        obtain ⟨g_8, h⟩ := gd_some h
        obtain ⟨r_5, o_6, h⟩ := bd_some h
        obtain ⟨z_7, h⟩ := nt_some h
        refine go_cN (As := []) (rest := []) (st2 := []) (c2 := 0) (s2 := 0) rfl rfl rfl rfl (Ca_U_setFree hl o_6) z_7 (d_S_recallOne 73 rfl) cw_S_121 ⟨w_375, w_5⟩ (Nat.eq_of_beq_eq_true g_8) (by decide) rfl ⟨by decide, by decide⟩ rfl (Nat.le_of_ble_eq_true rfl) ⟨by decide, by decide⟩ ?_
        exact go_vret (d_S_recallOne 76 rfl) rfl (Option.some.inj h) (by decide) (by decide)
    · refine go_icmp_ge (tgt := 62) (d_S_recallOne 11 rfl) (by decide) (fun q => absurd q (of_decide_eq_false c_1)) (fun _ => ?_)
      refine go_aload_n (d_S_recallOne 14 rfl) rfl rfl ?_
      refine go_getR (d_S_recallOne 15 rfl) fl_S_32 rfl rfl ?_
      show Go _ _ _ _ _ _ _ _ _ (.ref (ad (15)) :: []) _ _
      refine go_iload (d_S_recallOne 18 rfl) rfl ?_
      obtain ⟨g_9, h⟩ := gd_some h
      obtain ⟨k_10, ek_10, h⟩ := ln_some h
      refine go_aald (c := 15) (d_S_recallOne 20 rfl) rfl (by decide) g_9 ?_
      rw [← ek_10]
      refine go_iload_n (d_S_recallOne 21 rfl) rfl rfl ?_
      refine go_iload_n (d_S_recallOne 22 rfl) rfl rfl ?_
      obtain ⟨g_14, h⟩ := gd_some h
      obtain ⟨r_11, o_12, h⟩ := bd_some h
      obtain ⟨z_13, h⟩ := nt_some h
      refine go_cN (As := [.int x1, .int x2]) (rest := []) (st2 := [.int (r_11.2.1)]) (c2 := 0) (s2 := 0) rfl rfl rfl rfl (Ca_U_isFor hl o_12) z_13 (d_S_recallOne 23 rfl) cw_S_244 ⟨w_458, w_14⟩ (Nat.eq_of_beq_eq_true g_14) (by decide) rfl ⟨by decide, by decide⟩ rfl (Nat.le_of_ble_eq_true rfl) ⟨by decide, by decide⟩ ?_
      rcases br_some h with ⟨c_15, h⟩ | ⟨c_15, h⟩
      · refine go_if_eq (tgt := 56) (d_S_recallOne 26 rfl) (by decide) (fun _ => ?_) (fun q => absurd (of_decide_eq_true c_15) q)
        exact b_S_recallOne_56 hl _ ih (x1) (x2) (x3) (x4) (r_11.2.2.2) h
      · refine go_if_eq (tgt := 56) (d_S_recallOne 26 rfl) (by decide) (fun q => absurd q (of_decide_eq_false c_15)) (fun _ => ?_)
        refine go_iload_n (d_S_recallOne 29 rfl) rfl rfl ?_
        refine go_iconst (x := ((-1) : Int32)) (d_S_recallOne 30 rfl) (by decide) ?_
        rcases br_some h with ⟨c_16, h⟩ | ⟨c_16, h⟩
        · refine go_icmp_eq (tgt := 53) (d_S_recallOne 31 rfl) (by decide) (fun _ => ?_) (fun q => absurd (of_decide_eq_true c_16) q)
          exact b_S_recallOne_53 hl _ ih (x1) (x2) (x3) (x4) (r_11.2.2.2) h
        · refine go_icmp_eq (tgt := 53) (d_S_recallOne 31 rfl) (by decide) (fun q => absurd q (of_decide_eq_false c_16)) (fun _ => ?_)
          refine go_aload_n (d_S_recallOne 34 rfl) rfl rfl ?_
          refine go_getR (d_S_recallOne 35 rfl) fl_S_32 rfl rfl ?_
          show Go _ _ _ _ _ _ _ _ _ (.ref (ad (15)) :: []) _ _
          refine go_iload (d_S_recallOne 38 rfl) rfl ?_
          obtain ⟨g_17, h⟩ := gd_some h
          obtain ⟨k_18, ek_18, h⟩ := ln_some h
          refine go_aald (c := 15) (d_S_recallOne 40 rfl) rfl (by decide) g_17 ?_
          rw [← ek_18]
          refine go_aload_n (d_S_recallOne 41 rfl) rfl rfl ?_
          refine go_getR (d_S_recallOne 42 rfl) fl_S_32 rfl rfl ?_
          show Go _ _ _ _ _ _ _ _ _ (.ref (ad (15)) :: .ref (ad (k_18)) :: []) _ _
          refine go_iload_n (d_S_recallOne 45 rfl) rfl rfl ?_
          obtain ⟨g_19, h⟩ := gd_some h
          obtain ⟨k_20, ek_20, h⟩ := ln_some h
          refine go_aald (c := 15) (d_S_recallOne 46 rfl) rfl (by decide) g_19 ?_
          rw [← ek_20]
          obtain ⟨g_24, h⟩ := gd_some h
          obtain ⟨r_21, o_22, h⟩ := bd_some h
          obtain ⟨z_23, h⟩ := nt_some h
          refine go_cN (As := [.ref (ad (k_20))]) (rest := []) (st2 := [.int (r_21.2.1)]) (c2 := 0) (s2 := 0) rfl rfl rfl rfl (Ca_U_goesBackBefore hl o_22) z_23 (d_S_recallOne 47 rfl) cw_S_254 ⟨w_469, w_16⟩ (Nat.eq_of_beq_eq_true g_24) (by decide) rfl ⟨by decide, by decide⟩ rfl (Nat.le_of_ble_eq_true rfl) ⟨by decide, by decide⟩ ?_
          rcases br_some h with ⟨c_25, h⟩ | ⟨c_25, h⟩
          · refine go_if_eq (tgt := 56) (d_S_recallOne 50 rfl) (by decide) (fun _ => ?_) (fun q => absurd (of_decide_eq_true c_25) q)
            exact b_S_recallOne_56 hl _ ih (x1) (x2) (x3) (x4) (r_21.2.2.2) h
          · refine go_if_eq (tgt := 56) (d_S_recallOne 50 rfl) (by decide) (fun q => absurd q (of_decide_eq_false c_25)) (fun _ => ?_)
            exact b_S_recallOne_53 hl _ ih (x1) (x2) (x3) (x4) (r_21.2.2.2) h
def f_S_recallOne (x1 : Int32) (x2 : Int32) (v : go_V) : Option go_R := f_S_recallOne_5  FU (x1) (x2) (((-1) : Int32)) ((0 : Int32)) (v)
set_option maxHeartbeats 4000000 in
set_option maxRecDepth 100000 in
theorem Ca_S_recallOne {l : Launch} {G : go_G} {ad : Nat → Nat} (hl : l.stackTraces = false) {r : go_R} {x1 : Int32} {x2 : Int32} {v : go_V} (h : f_S_recallOne x1 x2 v = some r) : Ca l G y_S_recallOne (.code y_S_recallOne c_S_recallOne 5 none :: go_TT) (rmD 1 0) 0 ad [.ref (ad (0)), .int x1, .int x2] v r := by
  unfold f_S_recallOne at h
  refine go_body (own := RS) (by decide) rfl (Nat.le_of_ble_eq_true rfl) ?_
  show Go l G M_S_recallOne go_Ex0 (go_E G ad 0 r 0 0) ad v [(0, .ref (ad (0))), (1, .int x1), (2, .int x2)] 0 [] 0 0
  refine go_iconst (x := ((-1) : Int32)) (d_S_recallOne 0 rfl) (by decide) ?_
  refine go_istore_n (lv' := [(0, .ref (ad (0))), (1, .int x1), (2, .int x2), (3, .int (((-1) : Int32)))]) (d_S_recallOne 1 rfl) rfl (by decide) rfl ?_
  refine go_iconst (x := (0 : Int32)) (d_S_recallOne 2 rfl) (by decide) ?_
  refine go_istore (lv' := [(0, .ref (ad (0))), (1, .int x1), (2, .int x2), (3, .int (((-1) : Int32))), (4, .int ((0 : Int32)))]) (d_S_recallOne 3 rfl) (by decide) rfl ?_
  exact b_S_recallOne_5 hl  FU (x1) (x2) (((-1) : Int32)) ((0 : Int32)) (v) h
abbrev M_S_recallTooMuch : go_M := (c_S_recallTooMuch, 6, (some .int), RS, [], rmD 2 0)
def f_S_recallTooMuch_17  : Nat → Int32 → Int32 → Int32 → Int32 → Int32 → go_V → Option go_R
  | 0, _, _, _, _, _, _ => none
  | n + 1, x1, x2, x3, x4, x5, v => br (decide (x4 ≤ x5)) (some (0, x4, 0, v)) (bd (f_S_recallOne x1 x2 v) (fun r_2 => nt r_2 (f_S_recallTooMuch_17 n (x1) (x2) (x3) (x4) ((x5 + 1)) (r_2.2.2.2))))
set_option maxHeartbeats 4000000 in
set_option maxRecDepth 100000 in
theorem b_S_recallTooMuch_17 {l : Launch} {G : go_G} {ad : Nat → Nat} (hl : l.stackTraces = false) {r : go_R}  : ∀ (n : Nat) (x1 : Int32) (x2 : Int32) (x3 : Int32) (x4 : Int32) (x5 : Int32) (v : go_V), f_S_recallTooMuch_17  n x1 x2 x3 x4 x5 v = some r → Go l G M_S_recallTooMuch go_Ex0 (go_E G ad 1 r 0 0) ad v [(0, .ref (ad (0))), (1, .int x1), (2, .int x2), (3, .int x3), (4, .int x4), (5, .int x5)] 17 [] 0 0 := by
  intro n
  induction n with
  | zero =>
    intro x1 x2 x3 x4 x5 v h
    cases h
  | succ n ih =>
    intro x1 x2 x3 x4 x5 v h
    rw [f_S_recallTooMuch_17] at h
    refine go_iload (d_S_recallTooMuch 17 rfl) rfl ?_
    refine go_iload (d_S_recallTooMuch 19 rfl) rfl ?_
    rcases br_some h with ⟨c_1, h⟩ | ⟨c_1, h⟩
    · refine go_icmp_ge (tgt := 36) (d_S_recallTooMuch 21 rfl) (by decide) (fun _ => ?_) (fun q => absurd (of_decide_eq_true c_1) q)
      refine go_iload (d_S_recallTooMuch 36 rfl) rfl ?_
      exact go_iret (d_S_recallTooMuch 38 rfl) rfl rfl (Option.some.inj h) (by decide) (by decide)
    · refine go_icmp_ge (tgt := 36) (d_S_recallTooMuch 21 rfl) (by decide) (fun q => absurd q (of_decide_eq_false c_1)) (fun _ => ?_)
      refine go_aload_n (d_S_recallTooMuch 24 rfl) rfl rfl ?_
      refine go_iload_n (d_S_recallTooMuch 25 rfl) rfl rfl ?_
      refine go_iload_n (d_S_recallTooMuch 26 rfl) rfl rfl ?_
      obtain ⟨r_2, o_3, h⟩ := bd_some h
      obtain ⟨z_4, h⟩ := nt_some h
      refine go_cV (As := [.int x1, .int x2]) (rest := []) (st2 := []) (c2 := 0) (s2 := 0) rfl rfl rfl rfl (Ca_S_recallOne hl o_3)  (d_S_recallTooMuch 27 rfl) cw_S_250 ⟨w_465, w_15⟩ rfl (by decide) rfl ⟨by decide, by decide⟩ rfl (Nat.le_of_ble_eq_true rfl) ⟨by decide, by decide⟩ (fun _ => ?_) (fun q => absurd z_4 q)
      refine go_iinc (y := (x5 + 1)) (lv' := [(0, .ref (ad (0))), (1, .int x1), (2, .int x2), (3, .int x3), (4, .int x4), (5, .int ((x5 + 1)))]) (d_S_recallTooMuch 30 rfl) rfl rfl (by decide) rfl ?_
      refine go_goto (tgt := 17) (d_S_recallTooMuch 33 rfl) (by decide) ?_
      exact ih (x1) (x2) (x3) (x4) ((x5 + 1)) (r_2.2.2.2) h
def f_S_recallTooMuch (x1 : Int32) (x2 : Int32) (x3 : Int32) (v : go_V) : Option go_R := bd (f_S_unitsFor x1 x2 v) (fun r_1 => nt r_1 (f_S_recallTooMuch_17  FU (x1) (x2) (x3) ((if (r_1.2.1 - x3) < (0 : Int32) then (0 : Int32) else (r_1.2.1 - x3))) ((0 : Int32)) (r_1.2.2.2)))
set_option maxHeartbeats 4000000 in
set_option maxRecDepth 100000 in
theorem Ca_S_recallTooMuch {l : Launch} {G : go_G} {ad : Nat → Nat} (hl : l.stackTraces = false) {r : go_R} {x1 : Int32} {x2 : Int32} {x3 : Int32} {v : go_V} (h : f_S_recallTooMuch x1 x2 x3 v = some r) : Ca l G y_S_recallTooMuch (.code y_S_recallTooMuch c_S_recallTooMuch 6 (some .int) :: go_TT) (rmD 2 0) 1 ad [.ref (ad (0)), .int x1, .int x2, .int x3] v r := by
  unfold f_S_recallTooMuch at h
  refine go_body (own := RS) (by decide) rfl (Nat.le_of_ble_eq_true rfl) ?_
  show Go l G M_S_recallTooMuch go_Ex0 (go_E G ad 1 r 0 0) ad v [(0, .ref (ad (0))), (1, .int x1), (2, .int x2), (3, .int x3)] 0 [] 0 0
  refine go_aload_n (d_S_recallTooMuch 0 rfl) rfl rfl ?_
  refine go_iload_n (d_S_recallTooMuch 1 rfl) rfl rfl ?_
  refine go_iload_n (d_S_recallTooMuch 2 rfl) rfl rfl ?_
  obtain ⟨r_1, o_2, h⟩ := bd_some h
  obtain ⟨z_3, h⟩ := nt_some h
  refine go_cV (As := [.int x1, .int x2]) (rest := []) (st2 := [.int (r_1.2.1)]) (c2 := 0) (s2 := 0) rfl rfl rfl rfl (Ca_S_unitsFor hl o_2)  (d_S_recallTooMuch 3 rfl) cw_S_177 ⟨w_454, w_13⟩ rfl (by decide) rfl ⟨by decide, by decide⟩ rfl (Nat.le_of_ble_eq_true rfl) ⟨by decide, by decide⟩ (fun _ => ?_) (fun q => absurd z_3 q)
  refine go_iload_n (d_S_recallTooMuch 6 rfl) rfl rfl ?_
  refine go_isub (d_S_recallTooMuch 7 rfl) ?_
  refine go_iconst (x := (0 : Int32)) (d_S_recallTooMuch 8 rfl) (by decide) ?_
  refine go_max (d_S_recallTooMuch 9 rfl) mw_S_247 ⟨by decide, Nat.le_of_ble_eq_true rfl, by decide, by decide⟩ ?_
  refine go_istore (lv' := [(0, .ref (ad (0))), (1, .int x1), (2, .int x2), (3, .int x3), (4, .int ((if (r_1.2.1 - x3) < (0 : Int32) then (0 : Int32) else (r_1.2.1 - x3))))]) (d_S_recallTooMuch 12 rfl) (by decide) rfl ?_
  refine go_iconst (x := (0 : Int32)) (d_S_recallTooMuch 14 rfl) (by decide) ?_
  refine go_istore (lv' := [(0, .ref (ad (0))), (1, .int x1), (2, .int x2), (3, .int x3), (4, .int ((if (r_1.2.1 - x3) < (0 : Int32) then (0 : Int32) else (r_1.2.1 - x3)))), (5, .int ((0 : Int32)))]) (d_S_recallTooMuch 15 rfl) (by decide) rfl ?_
  exact b_S_recallTooMuch_17 hl  FU (x1) (x2) (x3) ((if (r_1.2.1 - x3) < (0 : Int32) then (0 : Int32) else (r_1.2.1 - x3))) ((0 : Int32)) (r_1.2.2.2) h
abbrev M_S_knownUnit : go_M := (c_S_knownUnit, 2, (some (.object "SecondWaves$Unit")), RS, [], rmD 0 1)
def f_S_knownUnit_12  (x1 : Int32) (v : go_V) : Option go_R := some (1, 0, 0, v)
set_option maxHeartbeats 4000000 in
set_option maxRecDepth 100000 in
theorem b_S_knownUnit_12 {l : Launch} {G : go_G} {ad : Nat → Nat} (hl : l.stackTraces = false) {r : go_R}  (x1 : Int32) (v : go_V) (h : f_S_knownUnit_12  x1 v = some r) : Go l G M_S_knownUnit go_Ex0 (go_E G ad 2 r 1 6) ad v [(0, .ref (ad (0))), (1, .int x1)] 12 [] 0 0 := by
  unfold f_S_knownUnit_12 at h
  exact go_thr (text := "no such unit") hl xs_65_69_1 (by decide +kernel) rfl rfl (d_S_knownUnit 12 rfl) (d_S_knownUnit 15 rfl) (d_S_knownUnit 16 rfl) (d_S_knownUnit 18 rfl) (d_S_knownUnit 21 rfl) ⟨by decide, Nat.le_of_ble_eq_true rfl, by decide, by decide⟩ (Option.some.inj h) (by decide) (by decide)
def f_S_knownUnit (x1 : Int32) (v : go_V) : Option go_R := br (decide (x1 < 0)) (f_S_knownUnit_12  (x1) (v)) (br (decide (x1 < (v 0 10))) (gd (go_in x1 40) (ln (go_elt 15 x1.toNatClampNeg) (fun k_4 => some (0, 0, k_4, v)))) (f_S_knownUnit_12  (x1) (v)))
set_option maxHeartbeats 4000000 in
set_option maxRecDepth 100000 in
theorem Ca_S_knownUnit {l : Launch} {G : go_G} {ad : Nat → Nat} (hl : l.stackTraces = false) {r : go_R} {x1 : Int32} {v : go_V} (h : f_S_knownUnit x1 v = some r) : Ca l G y_S_knownUnit (.code y_S_knownUnit c_S_knownUnit 2 (some (.object "SecondWaves$Unit")) :: go_TT) (rmD 0 1) 2 ad [.ref (ad (0)), .int x1] v r := by
  unfold f_S_knownUnit at h
  refine go_body (own := RS) (by decide) rfl (Nat.le_of_ble_eq_true rfl) ?_
  show Go l G M_S_knownUnit go_Ex0 (go_E G ad 2 r 1 6) ad v [(0, .ref (ad (0))), (1, .int x1)] 0 [] 0 0
  refine go_iload_n (d_S_knownUnit 0 rfl) rfl rfl ?_
  rcases br_some h with ⟨c_1, h⟩ | ⟨c_1, h⟩
  · refine go_if_lt (tgt := 12) (d_S_knownUnit 1 rfl) (by decide) (fun _ => ?_) (fun q => absurd (of_decide_eq_true c_1) q)
    exact b_S_knownUnit_12 hl  (x1) (v) h
  · refine go_if_lt (tgt := 12) (d_S_knownUnit 1 rfl) (by decide) (fun q => absurd q (of_decide_eq_false c_1)) (fun _ => ?_)
    refine go_iload_n (d_S_knownUnit 4 rfl) rfl rfl ?_
    refine go_aload_n (d_S_knownUnit 5 rfl) rfl rfl ?_
    refine go_getI (d_S_knownUnit 6 rfl) fl_S_115 rfl rfl ?_
    rcases br_some h with ⟨c_2, h⟩ | ⟨c_2, h⟩
    · refine go_icmp_lt (tgt := 22) (d_S_knownUnit 9 rfl) (by decide) (fun _ => ?_) (fun q => absurd (of_decide_eq_true c_2) q)
      refine go_aload_n (d_S_knownUnit 22 rfl) rfl rfl ?_
      refine go_getR (d_S_knownUnit 23 rfl) fl_S_32 rfl rfl ?_
      show Go _ _ _ _ _ _ _ _ _ (.ref (ad (15)) :: []) _ _
      refine go_iload_n (d_S_knownUnit 26 rfl) rfl rfl ?_
      obtain ⟨g_3, h⟩ := gd_some h
      obtain ⟨k_4, ek_4, h⟩ := ln_some h
      refine go_aald (c := 15) (d_S_knownUnit 27 rfl) rfl (by decide) g_3 ?_
      rw [← ek_4]
      exact go_aret (d_S_knownUnit 28 rfl) rfl (Option.some.inj h) (by decide) (by decide)
    · refine go_icmp_lt (tgt := 22) (d_S_knownUnit 9 rfl) (by decide) (fun q => absurd q (of_decide_eq_false c_2)) (fun _ => ?_)
      exact b_S_knownUnit_12 hl  (x1) (v) h
end
section
/-! read back by wip/whole/dec.py: a function a method, and the rows that tie them -/
abbrev M_S_row : go_M := (c_S_row, 4, none, RS, [], rmD 1 3)
def f_S_row (x1 : Int32) (x2 : Int32) (x3 : Int32) (v : go_V) : Option go_R := bd (f_S_refuseUnknownStep x1 v) (fun r_1 => tr r_1 (bd (f_S_refuseUnknownSkill x2 r_1.2.2.2) (fun r_4 => tr r_4 (bd (f_S_refuseOutside x3 (0 : Int32) (30 : Int32) r_4.2.2.2) (fun r_7 => tr r_7 (gd (go_in x1 10) (ln (go_elt 1 x1.toNatClampNeg) (fun k_11 => gd (Nat.beq (go_cls (k_11)) 10) (gd (go_in x2 (go_len (k_11))) (ln (u2 r_7.2.2.2 (k_11) x2.toNatClampNeg x3) (fun v_14 => some (0, 0, 0, v_14))))))))))))
set_option maxHeartbeats 4000000 in
set_option maxRecDepth 100000 in
theorem Ca_S_row {l : Launch} {G : go_G} {ad : Nat → Nat} (hl : l.stackTraces = false) {r : go_R} {x1 : Int32} {x2 : Int32} {x3 : Int32} {v : go_V} (h : f_S_row x1 x2 x3 v = some r) : Ca l G y_S_row (.code y_S_row c_S_row 4 none :: go_TT) (rmD 1 3) 0 ad [.ref (ad (0)), .int x1, .int x2, .int x3] v r := by
  unfold f_S_row at h
  refine go_body (own := RS) (by decide) rfl (Nat.le_of_ble_eq_true rfl) ?_
  show Go l G M_S_row go_Ex0 (go_E G ad 0 r 3 18) ad v [(0, .ref (ad (0))), (1, .int x1), (2, .int x2), (3, .int x3)] 0 [] 0 0
  refine go_iload_n (d_S_row 0 rfl) rfl rfl ?_
  obtain ⟨r_1, o_2, h⟩ := bd_some h
  rcases tr_some h with ⟨z_3, h⟩ | ⟨z_3, h⟩
  · refine go_cS (As := [.int x1]) (rest := []) (st2 := []) (c2 := 1) (s2 := 6) rfl rfl rfl rfl (Ca_S_refuseUnknownStep hl o_2)  (d_S_row 1 rfl) cw_S_39 w_189 ⟨by decide, by decide⟩ rfl (Nat.le_of_ble_eq_true rfl) ⟨by decide, by decide⟩ (fun _ => ?_) (fun q => absurd z_3 q)
    refine go_iload_n (d_S_row 4 rfl) rfl rfl ?_
    obtain ⟨r_4, o_5, h⟩ := bd_some h
    rcases tr_some h with ⟨z_6, h⟩ | ⟨z_6, h⟩
    · refine go_cS (As := [.int x2]) (rest := []) (st2 := []) (c2 := 2) (s2 := 12) rfl rfl rfl rfl (Ca_S_refuseUnknownSkill hl o_5)  (d_S_row 5 rfl) cw_S_43 w_261 ⟨by decide, by decide⟩ rfl (Nat.le_of_ble_eq_true rfl) ⟨by decide, by decide⟩ (fun _ => ?_) (fun q => absurd z_6 q)
      refine go_iload_n (d_S_row 8 rfl) rfl rfl ?_
      refine go_iconst (x := (0 : Int32)) (d_S_row 9 rfl) (by decide) ?_
      refine go_bipush (x := (30 : Int32)) (d_S_row 10 rfl) (by decide) ?_
      obtain ⟨r_7, o_8, h⟩ := bd_some h
      rcases tr_some h with ⟨z_9, h⟩ | ⟨z_9, h⟩
      · refine go_cS (As := [.int x3, .int ((0 : Int32)), .int ((30 : Int32))]) (rest := []) (st2 := []) (c2 := 3) (s2 := 18) rfl rfl rfl rfl (Ca_S_refuseOutside hl o_8)  (d_S_row 12 rfl) cw_S_46 w_265 ⟨by decide, by decide⟩ rfl (Nat.le_of_ble_eq_true rfl) ⟨by decide, by decide⟩ (fun _ => ?_) (fun q => absurd z_9 q)
        refine go_aload_n (d_S_row 15 rfl) rfl rfl ?_
        refine go_getR (d_S_row 16 rfl) fl_S_11 rfl rfl ?_
        show Go _ _ _ _ _ _ _ _ _ (.ref (ad (1)) :: []) _ _
        refine go_iload_n (d_S_row 19 rfl) rfl rfl ?_
        obtain ⟨g_10, h⟩ := gd_some h
        obtain ⟨k_11, ek_11, h⟩ := ln_some h
        refine go_aald (c := 16) (d_S_row 20 rfl) rfl (by decide) g_10 ?_
        rw [← ek_11]
        refine go_iload_n (d_S_row 21 rfl) rfl rfl ?_
        refine go_iload_n (d_S_row 22 rfl) rfl rfl ?_
        obtain ⟨g_12, h⟩ := gd_some h
        obtain ⟨g_13, h⟩ := gd_some h
        obtain ⟨v_14, ev_14, h⟩ := ln_some h
        refine go_iast (y := x3) (d_S_row 23 rfl) (Nat.eq_of_beq_eq_true g_12) g_13 ?_
        rw [← ev_14]
        exact go_vret (d_S_row 24 rfl) rfl (Option.some.inj h) (by decide) (by decide)
      · exact go_cS (As := [.int x3, .int ((0 : Int32)), .int ((30 : Int32))]) (rest := []) (st2 := []) (c2 := 3) (s2 := 18) rfl rfl rfl rfl (Ca_S_refuseOutside hl o_8)  (d_S_row 12 rfl) cw_S_46 w_265 ⟨by decide, by decide⟩ rfl (Nat.le_of_ble_eq_true rfl) ⟨by decide, by decide⟩ (fun q => absurd q z_9) (fun q => gx_out q rfl h (by decide) (by decide))
    · exact go_cS (As := [.int x2]) (rest := []) (st2 := []) (c2 := 2) (s2 := 12) rfl rfl rfl rfl (Ca_S_refuseUnknownSkill hl o_5)  (d_S_row 5 rfl) cw_S_43 w_261 ⟨by decide, by decide⟩ rfl (Nat.le_of_ble_eq_true rfl) ⟨by decide, by decide⟩ (fun q => absurd q z_6) (fun q => gx_out q rfl h (by decide) (by decide))
  · exact go_cS (As := [.int x1]) (rest := []) (st2 := []) (c2 := 1) (s2 := 6) rfl rfl rfl rfl (Ca_S_refuseUnknownStep hl o_2)  (d_S_row 1 rfl) cw_S_39 w_189 ⟨by decide, by decide⟩ rfl (Nat.le_of_ble_eq_true rfl) ⟨by decide, by decide⟩ (fun q => absurd q z_3) (fun q => gx_out q rfl h (by decide) (by decide))
abbrev M_S_top : go_M := (c_S_top, 2, none, RS, [], rmD 1 2)
def f_S_top (x1 : Int32) (v : go_V) : Option go_R := bd (f_S_refuseUnknownStep x1 v) (fun r_1 => tr r_1 (bd (f_S_isAnyOpenAbove x1 r_1.2.2.2) (fun r_4 => nt r_4 (br (decide (r_4.2.1 = 0)) (ln (u2 r_4.2.2.2 0 1 x1) (fun v_8 => some (0, 0, 0, v_8))) (some (3, 0, 0, r_4.2.2.2))))))
set_option maxHeartbeats 4000000 in
set_option maxRecDepth 100000 in
theorem Ca_S_top {l : Launch} {G : go_G} {ad : Nat → Nat} (hl : l.stackTraces = false) {r : go_R} {x1 : Int32} {v : go_V} (h : f_S_top x1 v = some r) : Ca l G y_S_top (.code y_S_top c_S_top 2 none :: go_TT) (rmD 1 2) 0 ad [.ref (ad (0)), .int x1] v r := by
  unfold f_S_top at h
  refine go_body (own := RS) (by decide) rfl (Nat.le_of_ble_eq_true rfl) ?_
  show Go l G M_S_top go_Ex0 (go_E G ad 0 r 2 12) ad v [(0, .ref (ad (0))), (1, .int x1)] 0 [] 0 0
  refine go_iload_n (d_S_top 0 rfl) rfl rfl ?_
  obtain ⟨r_1, o_2, h⟩ := bd_some h
  rcases tr_some h with ⟨z_3, h⟩ | ⟨z_3, h⟩
  · refine go_cS (As := [.int x1]) (rest := []) (st2 := []) (c2 := 1) (s2 := 6) rfl rfl rfl rfl (Ca_S_refuseUnknownStep hl o_2)  (d_S_top 1 rfl) cw_S_39 w_189 ⟨by decide, by decide⟩ rfl (Nat.le_of_ble_eq_true rfl) ⟨by decide, by decide⟩ (fun _ => ?_) (fun q => absurd z_3 q)
    refine go_aload_n (d_S_top 4 rfl) rfl rfl ?_
    refine go_iload_n (d_S_top 5 rfl) rfl rfl ?_
    obtain ⟨r_4, o_5, h⟩ := bd_some h
    obtain ⟨z_6, h⟩ := nt_some h
    refine go_cV (As := [.int x1]) (rest := []) (st2 := [.int (r_4.2.1)]) (c2 := 1) (s2 := 6) rfl rfl rfl rfl (Ca_S_isAnyOpenAbove hl o_5)  (d_S_top 6 rfl) cw_S_50 ⟨w_293, w_1⟩ rfl (by decide) rfl ⟨by decide, by decide⟩ rfl (Nat.le_of_ble_eq_true rfl) ⟨by decide, by decide⟩ (fun _ => ?_) (fun q => absurd z_6 q)
    rcases br_some h with ⟨c_7, h⟩ | ⟨c_7, h⟩
    · refine go_if_eq (tgt := 22) (d_S_top 9 rfl) (by decide) (fun _ => ?_) (fun q => absurd (of_decide_eq_true c_7) q)
      refine go_aload_n (d_S_top 22 rfl) rfl rfl ?_
      refine go_iload_n (d_S_top 23 rfl) rfl rfl ?_
      obtain ⟨v_8, ev_8, h⟩ := ln_some h
      refine go_putI (x := x1) (d_S_top 24 rfl) fp_S_61 rfl rfl rfl rfl ?_
      rw [← ev_8]
      exact go_vret (d_S_top 27 rfl) rfl (Option.some.inj h) (by decide) (by decide)
    · refine go_if_eq (tgt := 22) (d_S_top 9 rfl) (by decide) (fun q => absurd q (of_decide_eq_false c_7)) (fun _ => ?_)
      exact go_thr (text := "an open incident is above this step") hl xs_54_58_3 (by decide +kernel) rfl rfl (d_S_top 12 rfl) (d_S_top 15 rfl) (d_S_top 16 rfl) (d_S_top 18 rfl) (d_S_top 21 rfl) ⟨by decide, Nat.le_of_ble_eq_true rfl, by decide, by decide⟩ (Option.some.inj h) (by decide) (by decide)
  · exact go_cS (As := [.int x1]) (rest := []) (st2 := []) (c2 := 1) (s2 := 6) rfl rfl rfl rfl (Ca_S_refuseUnknownStep hl o_2)  (d_S_top 1 rfl) cw_S_39 w_189 ⟨by decide, by decide⟩ rfl (Nat.le_of_ble_eq_true rfl) ⟨by decide, by decide⟩ (fun q => absurd q z_3) (fun q => gx_out q rfl h (by decide) (by decide))
abbrev M_S_trigger : go_M := (c_S_trigger, 6, (some .int), RS, [], rmD 1 4)
def f_S_trigger_9  (x1 : Int32) (x2 : Int32) (x3 : Int32) (x4 : Int32) (v : go_V) : Option go_R := some (1, 0, 0, v)
set_option maxHeartbeats 4000000 in
set_option maxRecDepth 100000 in
theorem b_S_trigger_9 {l : Launch} {G : go_G} {ad : Nat → Nat} (hl : l.stackTraces = false) {r : go_R}  (x1 : Int32) (x2 : Int32) (x3 : Int32) (x4 : Int32) (v : go_V) (h : f_S_trigger_9  x1 x2 x3 x4 v = some r) : Go l G M_S_trigger go_Ex0 (go_E G ad 1 r 4 24) ad v [(0, .ref (ad (0))), (1, .int x1), (2, .int x2), (3, .int x3), (4, .int x4)] 9 [] 0 0 := by
  unfold f_S_trigger_9 at h
  exact go_thr (text := "no such kind") hl xs_65_69_1 (by decide +kernel) rfl rfl (d_S_trigger 9 rfl) (d_S_trigger 12 rfl) (d_S_trigger 13 rfl) (d_S_trigger 15 rfl) (d_S_trigger 18 rfl) ⟨by decide, Nat.le_of_ble_eq_true rfl, by decide, by decide⟩ (Option.some.inj h) (by decide) (by decide)
def f_S_trigger_106  (x1 : Int32) (x2 : Int32) (x3 : Int32) (x4 : Int32) (x5 : Int32) (v : go_V) : Option go_R := some (0, x5, 0, v)
set_option maxHeartbeats 4000000 in
set_option maxRecDepth 100000 in
theorem b_S_trigger_106 {l : Launch} {G : go_G} {ad : Nat → Nat} (hl : l.stackTraces = false) {r : go_R}  (x1 : Int32) (x2 : Int32) (x3 : Int32) (x4 : Int32) (x5 : Int32) (v : go_V) (h : f_S_trigger_106  x1 x2 x3 x4 x5 v = some r) : Go l G M_S_trigger go_Ex0 (go_E G ad 1 r 4 24) ad v [(0, .ref (ad (0))), (1, .int x1), (2, .int x2), (3, .int x3), (4, .int x4), (5, .int x5)] 106 [] 3 18 := by
  unfold f_S_trigger_106 at h
  refine go_iload (d_S_trigger 106 rfl) rfl ?_
  exact go_iret (d_S_trigger 108 rfl) rfl rfl (Option.some.inj h) (by decide) (by decide)
def f_S_trigger (x1 : Int32) (x2 : Int32) (x3 : Int32) (x4 : Int32) (v : go_V) : Option go_R := br (decide (x1 < 0)) (f_S_trigger_9  (x1) (x2) (x3) (x4) (v)) (br (decide (x1 < (4 : Int32))) (bd (f_S_refuseUnknownStep x3 v) (fun r_3 => tr r_3 (gd (go_in x1 4) (gd (go_in x1 4) (bd (f_S_refuseOutside x2 (go_lsI x1) (go_grI x1) r_3.2.2.2) (fun r_8 => tr r_8 (bd (f_S_refuseOutside x4 (0 : Int32) (100000 : Int32) r_8.2.2.2) (fun r_11 => tr r_11 (br (decide ((r_11.2.2.2 0 4) < (20 : Int32))) (ln (u2 r_11.2.2.2 0 4 ((r_11.2.2.2 0 4) + (1 : Int32))) (fun v_15 => gd (go_in (r_11.2.2.2 0 4) 20) (ln (go_elt 12 (r_11.2.2.2 0 4).toNatClampNeg) (fun k_17 => gd (Nat.beq (go_cls (k_17)) 1) (bd (f_T_set k_17 x1 x2 x3 x4 v_15) (fun r_18 => nt r_18 (br (decide (x1 = (2 : Int32))) (bd (f_S_addSilence (r_11.2.2.2 0 4) r_18.2.2.2) (fun r_23 => nt r_23 (f_S_trigger_106  (x1) (x2) (x3) (x4) ((r_11.2.2.2 0 4)) (r_23.2.2.2)))) (f_S_trigger_106  (x1) (x2) (x3) (x4) ((r_11.2.2.2 0 4)) (r_18.2.2.2))))))))) (some (4, 0, 0, r_11.2.2.2))))))))))) (f_S_trigger_9  (x1) (x2) (x3) (x4) (v)))
set_option maxHeartbeats 4000000 in
set_option maxRecDepth 100000 in
theorem Ca_S_trigger {l : Launch} {G : go_G} {ad : Nat → Nat} (hl : l.stackTraces = false) {r : go_R} {x1 : Int32} {x2 : Int32} {x3 : Int32} {x4 : Int32} {v : go_V} (h : f_S_trigger x1 x2 x3 x4 v = some r) : Ca l G y_S_trigger (.code y_S_trigger c_S_trigger 6 (some .int) :: go_TT) (rmD 1 4) 1 ad [.ref (ad (0)), .int x1, .int x2, .int x3, .int x4] v r := by
  unfold f_S_trigger at h
  refine go_body (own := RS) (by decide) rfl (Nat.le_of_ble_eq_true rfl) ?_
  show Go l G M_S_trigger go_Ex0 (go_E G ad 1 r 4 24) ad v [(0, .ref (ad (0))), (1, .int x1), (2, .int x2), (3, .int x3), (4, .int x4)] 0 [] 0 0
  refine go_iload_n (d_S_trigger 0 rfl) rfl rfl ?_
  rcases br_some h with ⟨c_1, h⟩ | ⟨c_1, h⟩
  · refine go_if_lt (tgt := 9) (d_S_trigger 1 rfl) (by decide) (fun _ => ?_) (fun q => absurd (of_decide_eq_true c_1) q)
    exact b_S_trigger_9 hl  (x1) (x2) (x3) (x4) (v) h
  · refine go_if_lt (tgt := 9) (d_S_trigger 1 rfl) (by decide) (fun q => absurd q (of_decide_eq_false c_1)) (fun _ => ?_)
    refine go_iload_n (d_S_trigger 4 rfl) rfl rfl ?_
    refine go_iconst (x := (4 : Int32)) (d_S_trigger 5 rfl) (by decide) ?_
    rcases br_some h with ⟨c_2, h⟩ | ⟨c_2, h⟩
    · refine go_icmp_lt (tgt := 19) (d_S_trigger 6 rfl) (by decide) (fun _ => ?_) (fun q => absurd (of_decide_eq_true c_2) q)
      refine go_iload_n (d_S_trigger 19 rfl) rfl rfl ?_
      obtain ⟨r_3, o_4, h⟩ := bd_some h
      rcases tr_some h with ⟨z_5, h⟩ | ⟨z_5, h⟩
      · refine go_cS (As := [.int x3]) (rest := []) (st2 := []) (c2 := 1) (s2 := 6) rfl rfl rfl rfl (Ca_S_refuseUnknownStep hl o_4)  (d_S_trigger 20 rfl) cw_S_39 w_189 ⟨by decide, by decide⟩ rfl (Nat.le_of_ble_eq_true rfl) ⟨by decide, by decide⟩ (fun _ => ?_) (fun q => absurd z_5 q)
        refine go_iload_n (d_S_trigger 23 rfl) rfl rfl ?_
        refine go_gsL (d_S_trigger 24 rfl) w_320 ?_
        refine go_iload_n (d_S_trigger 27 rfl) rfl rfl ?_
        obtain ⟨g_6, h⟩ := gd_some h
        refine go_tL (d_S_trigger 28 rfl) g_6 ?_
        refine go_gsG (d_S_trigger 29 rfl) w_322 ?_
        refine go_iload_n (d_S_trigger 32 rfl) rfl rfl ?_
        obtain ⟨g_7, h⟩ := gd_some h
        refine go_tG (d_S_trigger 33 rfl) g_7 ?_
        obtain ⟨r_8, o_9, h⟩ := bd_some h
        rcases tr_some h with ⟨z_10, h⟩ | ⟨z_10, h⟩
        · refine go_cS (As := [.int x2, .int ((go_lsI x1)), .int ((go_grI x1))]) (rest := []) (st2 := []) (c2 := 2) (s2 := 12) rfl rfl rfl rfl (Ca_S_refuseOutside hl o_9)  (d_S_trigger 34 rfl) cw_S_46 w_265 ⟨by decide, by decide⟩ rfl (Nat.le_of_ble_eq_true rfl) ⟨by decide, by decide⟩ (fun _ => ?_) (fun q => absurd z_10 q)
          refine go_iload (d_S_trigger 37 rfl) rfl ?_
          refine go_iconst (x := (0 : Int32)) (d_S_trigger 39 rfl) (by decide) ?_
          refine go_ldc (x := (100000 : Int32)) (d_S_trigger 40 rfl) w_324 ?_
          obtain ⟨r_11, o_12, h⟩ := bd_some h
          rcases tr_some h with ⟨z_13, h⟩ | ⟨z_13, h⟩
          · refine go_cS (As := [.int x4, .int ((0 : Int32)), .int ((100000 : Int32))]) (rest := []) (st2 := []) (c2 := 3) (s2 := 18) rfl rfl rfl rfl (Ca_S_refuseOutside hl o_12)  (d_S_trigger 42 rfl) cw_S_46 w_265 ⟨by decide, by decide⟩ rfl (Nat.le_of_ble_eq_true rfl) ⟨by decide, by decide⟩ (fun _ => ?_) (fun q => absurd z_13 q)
            refine go_aload_n (d_S_trigger 45 rfl) rfl rfl ?_
            refine go_getI (d_S_trigger 46 rfl) fl_S_77 rfl rfl ?_
            refine go_bipush (x := (20 : Int32)) (d_S_trigger 49 rfl) (by decide) ?_
            rcases br_some h with ⟨c_14, h⟩ | ⟨c_14, h⟩
            · refine go_icmp_lt (tgt := 64) (d_S_trigger 51 rfl) (by decide) (fun _ => ?_) (fun q => absurd (of_decide_eq_true c_14) q)
              refine go_aload_n (d_S_trigger 64 rfl) rfl rfl ?_
              refine go_getI (d_S_trigger 65 rfl) fl_S_77 rfl rfl ?_
              refine go_istore (lv' := [(0, .ref (ad (0))), (1, .int x1), (2, .int x2), (3, .int x3), (4, .int x4), (5, .int ((r_11.2.2.2 0 4)))]) (d_S_trigger 68 rfl) (by decide) rfl ?_
              refine go_aload_n (d_S_trigger 70 rfl) rfl rfl ?_
              refine go_dup (d_S_trigger 71 rfl) rfl ?_
              refine go_getI (d_S_trigger 72 rfl) fl_S_77 rfl rfl ?_
              refine go_iconst (x := (1 : Int32)) (d_S_trigger 75 rfl) (by decide) ?_
              refine go_iadd (d_S_trigger 76 rfl) ?_
              obtain ⟨v_15, ev_15, h⟩ := ln_some h
              refine go_putI (x := ((r_11.2.2.2 0 4) + (1 : Int32))) (d_S_trigger 77 rfl) fp_S_77 rfl rfl rfl rfl ?_
              rw [← ev_15]
              refine go_aload_n (d_S_trigger 80 rfl) rfl rfl ?_
              refine go_getR (d_S_trigger 81 rfl) fl_S_16 rfl rfl ?_
              show Go _ _ _ _ _ _ _ _ _ (.ref (ad (12)) :: []) _ _
              refine go_iload (d_S_trigger 84 rfl) rfl ?_
              obtain ⟨g_16, h⟩ := gd_some h
              obtain ⟨k_17, ek_17, h⟩ := ln_some h
              refine go_aald (c := 13) (d_S_trigger 86 rfl) rfl (by decide) g_16 ?_
              rw [← ek_17]
              refine go_iload_n (d_S_trigger 87 rfl) rfl rfl ?_
              refine go_iload_n (d_S_trigger 88 rfl) rfl rfl ?_
              refine go_iload_n (d_S_trigger 89 rfl) rfl rfl ?_
              refine go_iload (d_S_trigger 90 rfl) rfl ?_
              obtain ⟨g_21, h⟩ := gd_some h
              obtain ⟨r_18, o_19, h⟩ := bd_some h
              obtain ⟨z_20, h⟩ := nt_some h
              refine go_cN (As := [.int x1, .int x2, .int x3, .int x4]) (rest := []) (st2 := []) (c2 := 3) (s2 := 18) rfl rfl rfl rfl (Ca_T_set hl o_19) z_20 (d_S_trigger 92 rfl) cw_S_85 ⟨w_343, w_2⟩ (Nat.eq_of_beq_eq_true g_21) (by decide) rfl ⟨by decide, by decide⟩ rfl (Nat.le_of_ble_eq_true rfl) ⟨by decide, by decide⟩ ?_
              refine go_iload_n (d_S_trigger 95 rfl) rfl rfl ?_
              refine go_iconst (x := (2 : Int32)) (d_S_trigger 96 rfl) (by decide) ?_
              rcases br_some h with ⟨c_22, h⟩ | ⟨c_22, h⟩
              · refine go_icmp_ne (tgt := 106) (d_S_trigger 97 rfl) (by decide) (fun q => absurd (of_decide_eq_true c_22) q) (fun _ => ?_)
                refine go_aload_n (d_S_trigger 100 rfl) rfl rfl ?_
                refine go_iload (d_S_trigger 101 rfl) rfl ?_
                obtain ⟨r_23, o_24, h⟩ := bd_some h
                obtain ⟨z_25, h⟩ := nt_some h
                refine go_cV (As := [.int ((r_11.2.2.2 0 4))]) (rest := []) (st2 := []) (c2 := 3) (s2 := 18) rfl rfl rfl rfl (Ca_S_addSilence hl o_24)  (d_S_trigger 103 rfl) cw_S_89 ⟨w_347, w_3⟩ rfl (by decide) rfl ⟨by decide, by decide⟩ rfl (Nat.le_of_ble_eq_true rfl) ⟨by decide, by decide⟩ (fun _ => ?_) (fun q => absurd z_25 q)
                exact b_S_trigger_106 hl  (x1) (x2) (x3) (x4) ((r_11.2.2.2 0 4)) (r_23.2.2.2) h
              · refine go_icmp_ne (tgt := 106) (d_S_trigger 97 rfl) (by decide) (fun _ => ?_) (fun q => absurd q (of_decide_eq_false c_22))
                exact b_S_trigger_106 hl  (x1) (x2) (x3) (x4) ((r_11.2.2.2 0 4)) (r_18.2.2.2) h
            · refine go_icmp_lt (tgt := 64) (d_S_trigger 51 rfl) (by decide) (fun q => absurd q (of_decide_eq_false c_14)) (fun _ => ?_)
              exact go_thr (text := "no room for one more trigger") hl xs_80_84_4 (by decide +kernel) rfl rfl (d_S_trigger 54 rfl) (d_S_trigger 57 rfl) (d_S_trigger 58 rfl) (d_S_trigger 60 rfl) (d_S_trigger 63 rfl) ⟨by decide, Nat.le_of_ble_eq_true rfl, by decide, by decide⟩ (Option.some.inj h) (by decide) (by decide)
          · exact go_cS (As := [.int x4, .int ((0 : Int32)), .int ((100000 : Int32))]) (rest := []) (st2 := []) (c2 := 3) (s2 := 18) rfl rfl rfl rfl (Ca_S_refuseOutside hl o_12)  (d_S_trigger 42 rfl) cw_S_46 w_265 ⟨by decide, by decide⟩ rfl (Nat.le_of_ble_eq_true rfl) ⟨by decide, by decide⟩ (fun q => absurd q z_13) (fun q => gx_out q rfl h (by decide) (by decide))
        · exact go_cS (As := [.int x2, .int ((go_lsI x1)), .int ((go_grI x1))]) (rest := []) (st2 := []) (c2 := 2) (s2 := 12) rfl rfl rfl rfl (Ca_S_refuseOutside hl o_9)  (d_S_trigger 34 rfl) cw_S_46 w_265 ⟨by decide, by decide⟩ rfl (Nat.le_of_ble_eq_true rfl) ⟨by decide, by decide⟩ (fun q => absurd q z_10) (fun q => gx_out q rfl h (by decide) (by decide))
      · exact go_cS (As := [.int x3]) (rest := []) (st2 := []) (c2 := 1) (s2 := 6) rfl rfl rfl rfl (Ca_S_refuseUnknownStep hl o_4)  (d_S_trigger 20 rfl) cw_S_39 w_189 ⟨by decide, by decide⟩ rfl (Nat.le_of_ble_eq_true rfl) ⟨by decide, by decide⟩ (fun q => absurd q z_5) (fun q => gx_out q rfl h (by decide) (by decide))
    · refine go_icmp_lt (tgt := 19) (d_S_trigger 6 rfl) (by decide) (fun q => absurd q (of_decide_eq_false c_2)) (fun _ => ?_)
      exact b_S_trigger_9 hl  (x1) (x2) (x3) (x4) (v) h
abbrev M_S_begin : go_M := (c_S_begin, 2, (some .int), RS, [], rmD 0 1)
def f_S_begin  (v : go_V) : Option go_R := br (decide ((v 0 8) < (12 : Int32))) (ln (u2 v 0 8 ((v 0 8) + (1 : Int32))) (fun v_2 => gd (go_in (v 0 8) 12) (ln (go_elt 14 (v 0 8).toNatClampNeg) (fun k_4 => gd (Nat.beq (go_cls (k_4)) 0) (ln (u2 v_2 (k_4) 0 (1 : Int32)) (fun v_6 => gd (go_in (v 0 8) 12) (ln (go_elt 14 (v 0 8).toNatClampNeg) (fun k_8 => gd (Nat.beq (go_cls (k_8)) 0) (ln (u2 v_6 (k_8) 3 (v_6 0 2)) (fun v_10 => some (0, (v 0 8), 0, v_10))))))))))) (some (4, 0, 0, v))
set_option maxHeartbeats 4000000 in
set_option maxRecDepth 100000 in
theorem Ca_S_begin {l : Launch} {G : go_G} {ad : Nat → Nat} (hl : l.stackTraces = false) {r : go_R}  {v : go_V} (h : f_S_begin  v = some r) : Ca l G y_S_begin (.code y_S_begin c_S_begin 2 (some .int) :: go_TT) (rmD 0 1) 1 ad [.ref (ad (0))] v r := by
  unfold f_S_begin at h
  refine go_body (own := RS) (by decide) rfl (Nat.le_of_ble_eq_true rfl) ?_
  show Go l G M_S_begin go_Ex0 (go_E G ad 1 r 1 6) ad v [(0, .ref (ad (0)))] 0 [] 0 0
  refine go_aload_n (d_S_begin 0 rfl) rfl rfl ?_
  refine go_getI (d_S_begin 1 rfl) fl_S_92 rfl rfl ?_
  refine go_bipush (x := (12 : Int32)) (d_S_begin 4 rfl) (by decide) ?_
  rcases br_some h with ⟨c_1, h⟩ | ⟨c_1, h⟩
  · refine go_icmp_lt (tgt := 19) (d_S_begin 6 rfl) (by decide) (fun _ => ?_) (fun q => absurd (of_decide_eq_true c_1) q)
    refine go_aload_n (d_S_begin 19 rfl) rfl rfl ?_
    refine go_getI (d_S_begin 20 rfl) fl_S_92 rfl rfl ?_
    refine go_istore_n (lv' := [(0, .ref (ad (0))), (1, .int ((v 0 8)))]) (d_S_begin 23 rfl) rfl (by decide) rfl ?_
    refine go_aload_n (d_S_begin 24 rfl) rfl rfl ?_
    refine go_dup (d_S_begin 25 rfl) rfl ?_
    refine go_getI (d_S_begin 26 rfl) fl_S_92 rfl rfl ?_
    refine go_iconst (x := (1 : Int32)) (d_S_begin 29 rfl) (by decide) ?_
    refine go_iadd (d_S_begin 30 rfl) ?_
    obtain ⟨v_2, ev_2, h⟩ := ln_some h
    refine go_putI (x := ((v 0 8) + (1 : Int32))) (d_S_begin 31 rfl) fp_S_92 rfl rfl rfl rfl ?_
    rw [← ev_2]
    refine go_aload_n (d_S_begin 34 rfl) rfl rfl ?_
    refine go_getR (d_S_begin 35 rfl) fl_S_26 rfl rfl ?_
    show Go _ _ _ _ _ _ _ _ _ (.ref (ad (14)) :: []) _ _
    refine go_iload_n (d_S_begin 38 rfl) rfl rfl ?_
    obtain ⟨g_3, h⟩ := gd_some h
    obtain ⟨k_4, ek_4, h⟩ := ln_some h
    refine go_aald (c := 14) (d_S_begin 39 rfl) rfl (by decide) g_3 ?_
    rw [← ek_4]
    refine go_iconst (x := (1 : Int32)) (d_S_begin 40 rfl) (by decide) ?_
    obtain ⟨g_5, h⟩ := gd_some h
    obtain ⟨v_6, ev_6, h⟩ := ln_some h
    refine go_putI (x := (1 : Int32)) (d_S_begin 41 rfl) fp_S_97 (Nat.eq_of_beq_eq_true g_5) rfl (by decide) (by decide) ?_
    rw [← ev_6]
    refine go_aload_n (d_S_begin 44 rfl) rfl rfl ?_
    refine go_getR (d_S_begin 45 rfl) fl_S_26 rfl rfl ?_
    show Go _ _ _ _ _ _ _ _ _ (.ref (ad (14)) :: []) _ _
    refine go_iload_n (d_S_begin 48 rfl) rfl rfl ?_
    obtain ⟨g_7, h⟩ := gd_some h
    obtain ⟨k_8, ek_8, h⟩ := ln_some h
    refine go_aald (c := 14) (d_S_begin 49 rfl) rfl (by decide) g_7 ?_
    rw [← ek_8]
    refine go_aload_n (d_S_begin 50 rfl) rfl rfl ?_
    refine go_getI (d_S_begin 51 rfl) fl_S_101 rfl rfl ?_
    obtain ⟨g_9, h⟩ := gd_some h
    obtain ⟨v_10, ev_10, h⟩ := ln_some h
    refine go_putI (x := (v_6 0 2)) (d_S_begin 54 rfl) fp_S_104 (Nat.eq_of_beq_eq_true g_9) rfl rfl rfl ?_
    rw [← ev_10]
    refine go_iload_n (d_S_begin 57 rfl) rfl rfl ?_
    exact go_iret (d_S_begin 58 rfl) rfl rfl (Option.some.inj h) (by decide) (by decide)
  · refine go_icmp_lt (tgt := 19) (d_S_begin 6 rfl) (by decide) (fun q => absurd q (of_decide_eq_false c_1)) (fun _ => ?_)
    exact go_thr (text := "no room for one more incident") hl xs_80_84_4 (by decide +kernel) rfl rfl (d_S_begin 9 rfl) (d_S_begin 12 rfl) (d_S_begin 13 rfl) (d_S_begin 15 rfl) (d_S_begin 18 rfl) ⟨by decide, Nat.le_of_ble_eq_true rfl, by decide, by decide⟩ (Option.some.inj h) (by decide) (by decide)
abbrev M_S_close : go_M := (c_S_close, 4, none, RS, [], rmD 1 2)
def f_S_close_47 (rec17 : Int32 → Nat → Int32 → go_V → Option go_R) (x1 : Int32) (k2 : Nat) (x3 : Int32) (v : go_V) : Option go_R := rec17 (x1) (k2) ((x3 + 1)) (v)
set_option maxHeartbeats 4000000 in
set_option maxRecDepth 100000 in
theorem b_S_close_47 {l : Launch} {G : go_G} {ad : Nat → Nat} (hl : l.stackTraces = false) {r : go_R} (rec17 : Int32 → Nat → Int32 → go_V → Option go_R) (hrec17 : ∀ (x1 : Int32) (k2 : Nat) (x3 : Int32) (v : go_V), rec17 x1 k2 x3 v = some r → Go l G M_S_close go_Ex0 (go_E G ad 0 r 2 12) ad v [(0, .ref (ad (0))), (1, .int x1), (2, .ref (ad (k2))), (3, .int x3)] 17 [] 2 12) (x1 : Int32) (k2 : Nat) (x3 : Int32) (v : go_V) (h : f_S_close_47 rec17 x1 k2 x3 v = some r) : Go l G M_S_close go_Ex0 (go_E G ad 0 r 2 12) ad v [(0, .ref (ad (0))), (1, .int x1), (2, .ref (ad (k2))), (3, .int x3)] 47 [] 2 12 := by
  unfold f_S_close_47 at h
  refine go_iinc (y := (x3 + 1)) (lv' := [(0, .ref (ad (0))), (1, .int x1), (2, .ref (ad (k2))), (3, .int ((x3 + 1)))]) (d_S_close 47 rfl) rfl rfl (by decide) rfl ?_
  refine go_goto (tgt := 17) (d_S_close 50 rfl) (by decide) ?_
  exact hrec17 (x1) (k2) ((x3 + 1)) (v) h
def f_S_close_17  : Nat → Int32 → Nat → Int32 → go_V → Option go_R
  | 0, _, _, _, _ => none
  | n + 1, x1, k2, x3, v => br (decide ((v 0 10) ≤ x3)) (some (0, 0, 0, v)) (gd (go_in x3 40) (ln (go_elt 15 x3.toNatClampNeg) (fun k_3 => gd (Nat.beq (go_cls (k_3)) 2) (br (decide ((v (k_3) 2) = x1)) (gd (go_in x3 40) (ln (go_elt 15 x3.toNatClampNeg) (fun k_7 => gd (Nat.beq (go_cls (k_7)) 2) (bd (f_U_setFree k_7 v) (fun r_8 => nt r_8 (f_S_close_47 (f_S_close_17 n) (x1) (k2) (x3) (r_8.2.2.2))))))) (f_S_close_47 (f_S_close_17 n) (x1) (k2) (x3) (v))))))
set_option maxHeartbeats 4000000 in
set_option maxRecDepth 100000 in
theorem b_S_close_17 {l : Launch} {G : go_G} {ad : Nat → Nat} (hl : l.stackTraces = false) {r : go_R}  : ∀ (n : Nat) (x1 : Int32) (k2 : Nat) (x3 : Int32) (v : go_V), f_S_close_17  n x1 k2 x3 v = some r → Go l G M_S_close go_Ex0 (go_E G ad 0 r 2 12) ad v [(0, .ref (ad (0))), (1, .int x1), (2, .ref (ad (k2))), (3, .int x3)] 17 [] 2 12 := by
  intro n
  induction n with
  | zero =>
    intro x1 k2 x3 v h
    cases h
  | succ n ih =>
    intro x1 k2 x3 v h
    rw [f_S_close_17] at h
    refine go_iload_n (d_S_close 17 rfl) rfl rfl ?_
    refine go_aload_n (d_S_close 18 rfl) rfl rfl ?_
    refine go_getI (d_S_close 19 rfl) fl_S_115 rfl rfl ?_
    rcases br_some h with ⟨c_1, h⟩ | ⟨c_1, h⟩
    · refine go_icmp_ge (tgt := 53) (d_S_close 22 rfl) (by decide) (fun _ => ?_) (fun q => absurd (of_decide_eq_true c_1) q)
      exact go_vret (d_S_close 53 rfl) rfl (Option.some.inj h) (by decide) (by decide)
    · refine go_icmp_ge (tgt := 53) (d_S_close 22 rfl) (by decide) (fun q => absurd q (of_decide_eq_false c_1)) (fun _ => ?_)
      refine go_aload_n (d_S_close 25 rfl) rfl rfl ?_
      refine go_getR (d_S_close 26 rfl) fl_S_32 rfl rfl ?_
      show Go _ _ _ _ _ _ _ _ _ (.ref (ad (15)) :: []) _ _
      refine go_iload_n (d_S_close 29 rfl) rfl rfl ?_
      obtain ⟨g_2, h⟩ := gd_some h
      obtain ⟨k_3, ek_3, h⟩ := ln_some h
      refine go_aald (c := 15) (d_S_close 30 rfl) rfl (by decide) g_2 ?_
      rw [← ek_3]
      obtain ⟨g_4, h⟩ := gd_some h
      refine go_getI (d_S_close 31 rfl) fl_S_118 (Nat.eq_of_beq_eq_true g_4) rfl ?_
      refine go_iload_n (d_S_close 34 rfl) rfl rfl ?_
      rcases br_some h with ⟨c_5, h⟩ | ⟨c_5, h⟩
      · refine go_icmp_ne (tgt := 47) (d_S_close 35 rfl) (by decide) (fun q => absurd (of_decide_eq_true c_5) q) (fun _ => ?_)
        refine go_aload_n (d_S_close 38 rfl) rfl rfl ?_
        refine go_getR (d_S_close 39 rfl) fl_S_32 rfl rfl ?_
        show Go _ _ _ _ _ _ _ _ _ (.ref (ad (15)) :: []) _ _
        refine go_iload_n (d_S_close 42 rfl) rfl rfl ?_
        obtain ⟨g_6, h⟩ := gd_some h
        obtain ⟨k_7, ek_7, h⟩ := ln_some h
        refine go_aald (c := 15) (d_S_close 43 rfl) rfl (by decide) g_6 ?_
        rw [← ek_7]
        obtain ⟨g_11, h⟩ := gd_some h
        obtain ⟨r_8, o_9, h⟩ := bd_some h
        obtain ⟨z_10, h⟩ := nt_some h
        refine go_cN (As := []) (rest := []) (st2 := []) (c2 := 2) (s2 := 12) rfl rfl rfl rfl (Ca_U_setFree hl o_9) z_10 (d_S_close 44 rfl) cw_S_121 ⟨w_375, w_5⟩ (Nat.eq_of_beq_eq_true g_11) (by decide) rfl ⟨by decide, by decide⟩ rfl (Nat.le_of_ble_eq_true rfl) ⟨by decide, by decide⟩ ?_
        exact b_S_close_47 hl _ ih (x1) (k2) (x3) (r_8.2.2.2) h
      · refine go_icmp_ne (tgt := 47) (d_S_close 35 rfl) (by decide) (fun _ => ?_) (fun q => absurd q (of_decide_eq_false c_5))
        exact b_S_close_47 hl _ ih (x1) (k2) (x3) (v) h
def f_S_close (x1 : Int32) (v : go_V) : Option go_R := bd (f_S_knownIncident x1 v) (fun r_1 => tr r_1 (bd (f_S_refuseClosed r_1.2.2.1 r_1.2.2.2) (fun r_4 => tr r_4 (gd (Nat.beq (go_cls (r_1.2.2.1)) 0) (ln (u2 r_4.2.2.2 (r_1.2.2.1) 0 (0 : Int32)) (fun v_8 => f_S_close_17  FU (x1) (r_1.2.2.1) ((0 : Int32)) (v_8)))))))
set_option maxHeartbeats 4000000 in
set_option maxRecDepth 100000 in
theorem Ca_S_close {l : Launch} {G : go_G} {ad : Nat → Nat} (hl : l.stackTraces = false) {r : go_R} {x1 : Int32} {v : go_V} (h : f_S_close x1 v = some r) : Ca l G y_S_close (.code y_S_close c_S_close 4 none :: go_TT) (rmD 1 2) 0 ad [.ref (ad (0)), .int x1] v r := by
  unfold f_S_close at h
  refine go_body (own := RS) (by decide) rfl (Nat.le_of_ble_eq_true rfl) ?_
  show Go l G M_S_close go_Ex0 (go_E G ad 0 r 2 12) ad v [(0, .ref (ad (0))), (1, .int x1)] 0 [] 0 0
  refine go_aload_n (d_S_close 0 rfl) rfl rfl ?_
  refine go_iload_n (d_S_close 1 rfl) rfl rfl ?_
  obtain ⟨r_1, o_2, h⟩ := bd_some h
  rcases tr_some h with ⟨z_3, h⟩ | ⟨z_3, h⟩
  · refine go_cV (As := [.int x1]) (rest := []) (st2 := [.ref (ad (r_1.2.2.1))]) (c2 := 1) (s2 := 6) rfl rfl rfl rfl (Ca_S_knownIncident hl o_2)  (d_S_close 2 rfl) cw_S_107 ⟨w_366, w_4⟩ rfl (by decide) rfl ⟨by decide, by decide⟩ rfl (Nat.le_of_ble_eq_true rfl) ⟨by decide, by decide⟩ (fun _ => ?_) (fun q => absurd z_3 q)
    refine go_astore_n (lv' := [(0, .ref (ad (0))), (1, .int x1), (2, .ref (ad (r_1.2.2.1)))]) (d_S_close 5 rfl) rfl (by decide) rfl ?_
    refine go_aload_n (d_S_close 6 rfl) rfl rfl ?_
    obtain ⟨r_4, o_5, h⟩ := bd_some h
    rcases tr_some h with ⟨z_6, h⟩ | ⟨z_6, h⟩
    · refine go_cS (As := [.ref (ad (r_1.2.2.1))]) (rest := []) (st2 := []) (c2 := 2) (s2 := 12) rfl rfl rfl rfl (Ca_S_refuseClosed hl o_5)  (d_S_close 7 rfl) cw_S_111 w_370 ⟨by decide, by decide⟩ rfl (Nat.le_of_ble_eq_true rfl) ⟨by decide, by decide⟩ (fun _ => ?_) (fun q => absurd z_6 q)
      refine go_aload_n (d_S_close 10 rfl) rfl rfl ?_
      refine go_iconst (x := (0 : Int32)) (d_S_close 11 rfl) (by decide) ?_
      obtain ⟨g_7, h⟩ := gd_some h
      obtain ⟨v_8, ev_8, h⟩ := ln_some h
      refine go_putI (x := (0 : Int32)) (d_S_close 12 rfl) fp_S_97 (Nat.eq_of_beq_eq_true g_7) rfl (by decide) (by decide) ?_
      rw [← ev_8]
      refine go_iconst (x := (0 : Int32)) (d_S_close 15 rfl) (by decide) ?_
      refine go_istore_n (lv' := [(0, .ref (ad (0))), (1, .int x1), (2, .ref (ad (r_1.2.2.1))), (3, .int ((0 : Int32)))]) (d_S_close 16 rfl) rfl (by decide) rfl ?_
      exact b_S_close_17 hl  FU (x1) (r_1.2.2.1) ((0 : Int32)) (v_8) h
    · exact go_cS (As := [.ref (ad (r_1.2.2.1))]) (rest := []) (st2 := []) (c2 := 2) (s2 := 12) rfl rfl rfl rfl (Ca_S_refuseClosed hl o_5)  (d_S_close 7 rfl) cw_S_111 w_370 ⟨by decide, by decide⟩ rfl (Nat.le_of_ble_eq_true rfl) ⟨by decide, by decide⟩ (fun q => absurd q z_6) (fun q => gx_out q rfl h (by decide) (by decide))
  · exact go_cV (As := [.int x1]) (rest := []) (st2 := [.ref (ad (r_1.2.2.1))]) (c2 := 1) (s2 := 6) rfl rfl rfl rfl (Ca_S_knownIncident hl o_2)  (d_S_close 2 rfl) cw_S_107 ⟨w_366, w_4⟩ rfl (by decide) rfl ⟨by decide, by decide⟩ rfl (Nat.le_of_ble_eq_true rfl) ⟨by decide, by decide⟩ (fun q => absurd q z_3) (fun q => gx_out q rfl h (by decide) (by decide))
abbrev M_S_tick : go_M := (c_S_tick, 5, (some .int), RS, [], rmD 3 2)
def f_S_tick_69 (rec32 : Int32 → Int32 → Int32 → Int32 → go_V → Option go_R) (x1 : Int32) (x2 : Int32) (x3 : Int32) (x4 : Int32) (v : go_V) : Option go_R := rec32 (x1) (x2) (x3) ((x4 + 1)) (v)
set_option maxHeartbeats 4000000 in
set_option maxRecDepth 100000 in
theorem b_S_tick_69 {l : Launch} {G : go_G} {ad : Nat → Nat} (hl : l.stackTraces = false) {r : go_R} (rec32 : Int32 → Int32 → Int32 → Int32 → go_V → Option go_R) (hrec32 : ∀ (x1 : Int32) (x2 : Int32) (x3 : Int32) (x4 : Int32) (v : go_V), rec32 x1 x2 x3 x4 v = some r → Go l G M_S_tick go_Ex0 (go_E G ad 1 r 2 12) ad v [(0, .ref (ad (0))), (1, .int x1), (2, .int x2), (3, .int x3), (4, .int x4)] 32 [] 2 12) (x1 : Int32) (x2 : Int32) (x3 : Int32) (x4 : Int32) (v : go_V) (h : f_S_tick_69 rec32 x1 x2 x3 x4 v = some r) : Go l G M_S_tick go_Ex0 (go_E G ad 1 r 2 12) ad v [(0, .ref (ad (0))), (1, .int x1), (2, .int x2), (3, .int x3), (4, .int x4)] 69 [] 2 12 := by
  unfold f_S_tick_69 at h
  refine go_iinc (y := (x4 + 1)) (lv' := [(0, .ref (ad (0))), (1, .int x1), (2, .int x2), (3, .int x3), (4, .int ((x4 + 1)))]) (d_S_tick 69 rfl) rfl rfl (by decide) rfl ?_
  refine go_goto (tgt := 32) (d_S_tick 72 rfl) (by decide) ?_
  exact hrec32 (x1) (x2) (x3) ((x4 + 1)) (v) h
def f_S_tick_32  : Nat → Int32 → Int32 → Int32 → Int32 → go_V → Option go_R
  | 0, _, _, _, _, _ => none
  | n + 1, x1, x2, x3, x4, v => br (decide ((v 0 8) ≤ x4)) (ln (u2 v 0 2 x2) (fun v_2 => some (0, x3, 0, v_2))) (gd (go_in x4 12) (ln (go_elt 14 x4.toNatClampNeg) (fun k_4 => gd (Nat.beq (go_cls (k_4)) 0) (br (decide ((v (k_4) 0) = 0)) (f_S_tick_69 (f_S_tick_32 n) (x1) (x2) (x3) (x4) (v)) (gd (go_in x4 12) (ln (go_elt 14 x4.toNatClampNeg) (fun k_8 => bd (f_S_stayedSilent k_8 x2 v) (fun r_9 => nt r_9 (f_S_tick_69 (f_S_tick_32 n) (x1) (x2) ((x3 + r_9.2.1)) (x4) (r_9.2.2.2))))))))))
set_option maxHeartbeats 4000000 in
set_option maxRecDepth 100000 in
theorem b_S_tick_32 {l : Launch} {G : go_G} {ad : Nat → Nat} (hl : l.stackTraces = false) {r : go_R}  : ∀ (n : Nat) (x1 : Int32) (x2 : Int32) (x3 : Int32) (x4 : Int32) (v : go_V), f_S_tick_32  n x1 x2 x3 x4 v = some r → Go l G M_S_tick go_Ex0 (go_E G ad 1 r 2 12) ad v [(0, .ref (ad (0))), (1, .int x1), (2, .int x2), (3, .int x3), (4, .int x4)] 32 [] 2 12 := by
  intro n
  induction n with
  | zero =>
    intro x1 x2 x3 x4 v h
    cases h
  | succ n ih =>
    intro x1 x2 x3 x4 v h
    rw [f_S_tick_32] at h
    refine go_iload (d_S_tick 32 rfl) rfl ?_
    refine go_aload_n (d_S_tick 34 rfl) rfl rfl ?_
    refine go_getI (d_S_tick 35 rfl) fl_S_92 rfl rfl ?_
    rcases br_some h with ⟨c_1, h⟩ | ⟨c_1, h⟩
    · refine go_icmp_ge (tgt := 75) (d_S_tick 38 rfl) (by decide) (fun _ => ?_) (fun q => absurd (of_decide_eq_true c_1) q)
      refine go_aload_n (d_S_tick 75 rfl) rfl rfl ?_
      refine go_iload_n (d_S_tick 76 rfl) rfl rfl ?_
      obtain ⟨v_2, ev_2, h⟩ := ln_some h
      refine go_putI (x := x2) (d_S_tick 77 rfl) fp_S_101 rfl rfl rfl rfl ?_
      rw [← ev_2]
      refine go_iload_n (d_S_tick 80 rfl) rfl rfl ?_
      exact go_iret (d_S_tick 81 rfl) rfl rfl (Option.some.inj h) (by decide) (by decide)
    · refine go_icmp_ge (tgt := 75) (d_S_tick 38 rfl) (by decide) (fun q => absurd q (of_decide_eq_false c_1)) (fun _ => ?_)
      refine go_aload_n (d_S_tick 41 rfl) rfl rfl ?_
      refine go_getR (d_S_tick 42 rfl) fl_S_26 rfl rfl ?_
      show Go _ _ _ _ _ _ _ _ _ (.ref (ad (14)) :: []) _ _
      refine go_iload (d_S_tick 45 rfl) rfl ?_
      obtain ⟨g_3, h⟩ := gd_some h
      obtain ⟨k_4, ek_4, h⟩ := ln_some h
      refine go_aald (c := 14) (d_S_tick 47 rfl) rfl (by decide) g_3 ?_
      rw [← ek_4]
      obtain ⟨g_5, h⟩ := gd_some h
      refine go_getI (d_S_tick 48 rfl) fl_S_97 (Nat.eq_of_beq_eq_true g_5) rfl ?_
      rcases br_some h with ⟨c_6, h⟩ | ⟨c_6, h⟩
      · refine go_if_eq (tgt := 69) (d_S_tick 51 rfl) (by decide) (fun _ => ?_) (fun q => absurd (of_decide_eq_true c_6) q)
        exact b_S_tick_69 hl _ ih (x1) (x2) (x3) (x4) (v) h
      · refine go_if_eq (tgt := 69) (d_S_tick 51 rfl) (by decide) (fun q => absurd q (of_decide_eq_false c_6)) (fun _ => ?_)
        refine go_iload_n (d_S_tick 54 rfl) rfl rfl ?_
        refine go_aload_n (d_S_tick 55 rfl) rfl rfl ?_
        refine go_aload_n (d_S_tick 56 rfl) rfl rfl ?_
        refine go_getR (d_S_tick 57 rfl) fl_S_26 rfl rfl ?_
        show Go _ _ _ _ _ _ _ _ _ (.ref (ad (14)) :: .ref (ad (0)) :: .int x3 :: []) _ _
        refine go_iload (d_S_tick 60 rfl) rfl ?_
        obtain ⟨g_7, h⟩ := gd_some h
        obtain ⟨k_8, ek_8, h⟩ := ln_some h
        refine go_aald (c := 14) (d_S_tick 62 rfl) rfl (by decide) g_7 ?_
        rw [← ek_8]
        refine go_iload_n (d_S_tick 63 rfl) rfl rfl ?_
        obtain ⟨r_9, o_10, h⟩ := bd_some h
        obtain ⟨z_11, h⟩ := nt_some h
        refine go_cV (As := [.ref (ad (k_8)), .int x2]) (rest := [.int x3]) (st2 := [.int (r_9.2.1), .int x3]) (c2 := 2) (s2 := 12) rfl rfl rfl rfl (Ca_S_stayedSilent hl o_10)  (d_S_tick 64 rfl) cw_S_125 ⟨w_387, w_6⟩ rfl (by decide) rfl ⟨by decide, by decide⟩ rfl (Nat.le_of_ble_eq_true rfl) ⟨by decide, by decide⟩ (fun _ => ?_) (fun q => absurd z_11 q)
        refine go_iadd (d_S_tick 67 rfl) ?_
        refine go_istore_n (lv' := [(0, .ref (ad (0))), (1, .int x1), (2, .int x2), (3, .int ((x3 + r_9.2.1))), (4, .int x4)]) (d_S_tick 68 rfl) rfl (by decide) rfl ?_
        exact b_S_tick_69 hl _ ih (x1) (x2) ((x3 + r_9.2.1)) (x4) (r_9.2.2.2) h
def f_S_tick (x1 : Int32) (v : go_V) : Option go_R := bd (f_S_refuseOutside x1 (1 : Int32) (5000 : Int32) v) (fun r_1 => tr r_1 (bd (f_S_refuseOutside ((r_1.2.2.2 0 2) + x1) (0 : Int32) (999999 : Int32) r_1.2.2.2) (fun r_4 => tr r_4 (f_S_tick_32  FU (x1) (((r_4.2.2.2 0 2) + x1)) ((0 : Int32)) ((0 : Int32)) (r_4.2.2.2)))))
set_option maxHeartbeats 4000000 in
set_option maxRecDepth 100000 in
theorem Ca_S_tick {l : Launch} {G : go_G} {ad : Nat → Nat} (hl : l.stackTraces = false) {r : go_R} {x1 : Int32} {v : go_V} (h : f_S_tick x1 v = some r) : Ca l G y_S_tick (.code y_S_tick c_S_tick 5 (some .int) :: go_TT) (rmD 3 2) 1 ad [.ref (ad (0)), .int x1] v r := by
  unfold f_S_tick at h
  refine go_body (own := RS) (by decide) rfl (Nat.le_of_ble_eq_true rfl) ?_
  show Go l G M_S_tick go_Ex0 (go_E G ad 1 r 2 12) ad v [(0, .ref (ad (0))), (1, .int x1)] 0 [] 0 0
  refine go_iload_n (d_S_tick 0 rfl) rfl rfl ?_
  refine go_iconst (x := (1 : Int32)) (d_S_tick 1 rfl) (by decide) ?_
  refine go_sipush (x := (5000 : Int32)) (d_S_tick 2 rfl) (by decide) ?_
  obtain ⟨r_1, o_2, h⟩ := bd_some h
  rcases tr_some h with ⟨z_3, h⟩ | ⟨z_3, h⟩
  · refine go_cS (As := [.int x1, .int ((1 : Int32)), .int ((5000 : Int32))]) (rest := []) (st2 := []) (c2 := 1) (s2 := 6) rfl rfl rfl rfl (Ca_S_refuseOutside hl o_2)  (d_S_tick 5 rfl) cw_S_46 w_265 ⟨by decide, by decide⟩ rfl (Nat.le_of_ble_eq_true rfl) ⟨by decide, by decide⟩ (fun _ => ?_) (fun q => absurd z_3 q)
    refine go_aload_n (d_S_tick 8 rfl) rfl rfl ?_
    refine go_getI (d_S_tick 9 rfl) fl_S_101 rfl rfl ?_
    refine go_iload_n (d_S_tick 12 rfl) rfl rfl ?_
    refine go_iadd (d_S_tick 13 rfl) ?_
    refine go_iconst (x := (0 : Int32)) (d_S_tick 14 rfl) (by decide) ?_
    refine go_ldc (x := (999999 : Int32)) (d_S_tick 15 rfl) w_384 ?_
    obtain ⟨r_4, o_5, h⟩ := bd_some h
    rcases tr_some h with ⟨z_6, h⟩ | ⟨z_6, h⟩
    · refine go_cS (As := [.int (((r_1.2.2.2 0 2) + x1)), .int ((0 : Int32)), .int ((999999 : Int32))]) (rest := []) (st2 := []) (c2 := 2) (s2 := 12) rfl rfl rfl rfl (Ca_S_refuseOutside hl o_5)  (d_S_tick 17 rfl) cw_S_46 w_265 ⟨by decide, by decide⟩ rfl (Nat.le_of_ble_eq_true rfl) ⟨by decide, by decide⟩ (fun _ => ?_) (fun q => absurd z_6 q)
      refine go_aload_n (d_S_tick 20 rfl) rfl rfl ?_
      refine go_getI (d_S_tick 21 rfl) fl_S_101 rfl rfl ?_
      refine go_iload_n (d_S_tick 24 rfl) rfl rfl ?_
      refine go_iadd (d_S_tick 25 rfl) ?_
      refine go_istore_n (lv' := [(0, .ref (ad (0))), (1, .int x1), (2, .int (((r_4.2.2.2 0 2) + x1)))]) (d_S_tick 26 rfl) rfl (by decide) rfl ?_
      refine go_iconst (x := (0 : Int32)) (d_S_tick 27 rfl) (by decide) ?_
      refine go_istore_n (lv' := [(0, .ref (ad (0))), (1, .int x1), (2, .int (((r_4.2.2.2 0 2) + x1))), (3, .int ((0 : Int32)))]) (d_S_tick 28 rfl) rfl (by decide) rfl ?_
      refine go_iconst (x := (0 : Int32)) (d_S_tick 29 rfl) (by decide) ?_
      refine go_istore (lv' := [(0, .ref (ad (0))), (1, .int x1), (2, .int (((r_4.2.2.2 0 2) + x1))), (3, .int ((0 : Int32))), (4, .int ((0 : Int32)))]) (d_S_tick 30 rfl) (by decide) rfl ?_
      exact b_S_tick_32 hl  FU (x1) (((r_4.2.2.2 0 2) + x1)) ((0 : Int32)) ((0 : Int32)) (r_4.2.2.2) h
    · exact go_cS (As := [.int (((r_1.2.2.2 0 2) + x1)), .int ((0 : Int32)), .int ((999999 : Int32))]) (rest := []) (st2 := []) (c2 := 2) (s2 := 12) rfl rfl rfl rfl (Ca_S_refuseOutside hl o_5)  (d_S_tick 17 rfl) cw_S_46 w_265 ⟨by decide, by decide⟩ rfl (Nat.le_of_ble_eq_true rfl) ⟨by decide, by decide⟩ (fun q => absurd q z_6) (fun q => gx_out q rfl h (by decide) (by decide))
  · exact go_cS (As := [.int x1, .int ((1 : Int32)), .int ((5000 : Int32))]) (rest := []) (st2 := []) (c2 := 1) (s2 := 6) rfl rfl rfl rfl (Ca_S_refuseOutside hl o_2)  (d_S_tick 5 rfl) cw_S_46 w_265 ⟨by decide, by decide⟩ rfl (Nat.le_of_ble_eq_true rfl) ⟨by decide, by decide⟩ (fun q => absurd q z_3) (fun q => gx_out q rfl h (by decide) (by decide))
abbrev M_S_word : go_M := (c_S_word, 4, (some .int), RS, [], rmD 3 3)
def f_S_word_35  (x1 : Int32) (x2 : Int32) (k3 : Nat) (v : go_V) : Option go_R := bd (f_S_happened k3 (0 : Int32) x2 x2 v) (fun r_1 => nt r_1 (some (0, r_1.2.1, 0, r_1.2.2.2)))
set_option maxHeartbeats 4000000 in
set_option maxRecDepth 100000 in
theorem b_S_word_35 {l : Launch} {G : go_G} {ad : Nat → Nat} (hl : l.stackTraces = false) {r : go_R}  (x1 : Int32) (x2 : Int32) (k3 : Nat) (v : go_V) (h : f_S_word_35  x1 x2 k3 v = some r) : Go l G M_S_word go_Ex0 (go_E G ad 1 r 3 18) ad v [(0, .ref (ad (0))), (1, .int x1), (2, .int x2), (3, .ref (ad (k3)))] 35 [] 3 18 := by
  unfold f_S_word_35 at h
  refine go_aload_n (d_S_word 35 rfl) rfl rfl ?_
  refine go_aload_n (d_S_word 36 rfl) rfl rfl ?_
  refine go_iconst (x := (0 : Int32)) (d_S_word 37 rfl) (by decide) ?_
  refine go_iload_n (d_S_word 38 rfl) rfl rfl ?_
  refine go_iload_n (d_S_word 39 rfl) rfl rfl ?_
  obtain ⟨r_1, o_2, h⟩ := bd_some h
  obtain ⟨z_3, h⟩ := nt_some h
  refine go_cV (As := [.ref (ad (k3)), .int ((0 : Int32)), .int x2, .int x2]) (rest := []) (st2 := [.int (r_1.2.1)]) (c2 := 3) (s2 := 18) rfl rfl rfl rfl (Ca_S_happened hl o_2)  (d_S_word 40 rfl) cw_S_135 ⟨w_417, w_11⟩ rfl (by decide) rfl ⟨by decide, by decide⟩ rfl (Nat.le_of_ble_eq_true rfl) ⟨by decide, by decide⟩ (fun _ => ?_) (fun q => absurd z_3 q)
  exact go_iret (d_S_word 43 rfl) rfl rfl (Option.some.inj h) (by decide) (by decide)
def f_S_word (x1 : Int32) (x2 : Int32) (v : go_V) : Option go_R := bd (f_S_knownIncident x1 v) (fun r_1 => tr r_1 (bd (f_S_refuseOutside x2 (0 : Int32) (99 : Int32) r_1.2.2.2) (fun r_4 => tr r_4 (bd (f_S_refuseClosed r_1.2.2.1 r_4.2.2.2) (fun r_7 => tr r_7 (bd (f_S_hasTriggerForWord x2 r_7.2.2.2) (fun r_10 => nt r_10 (br (decide (r_10.2.1 = 0)) (ln (u2 r_10.2.2.2 0 11 ((r_10.2.2.2 0 11) + (1 : Int32))) (fun v_14 => f_S_word_35  (x1) (x2) (r_1.2.2.1) (v_14))) (f_S_word_35  (x1) (x2) (r_1.2.2.1) (r_10.2.2.2))))))))))
set_option maxHeartbeats 4000000 in
set_option maxRecDepth 100000 in
theorem Ca_S_word {l : Launch} {G : go_G} {ad : Nat → Nat} (hl : l.stackTraces = false) {r : go_R} {x1 : Int32} {x2 : Int32} {v : go_V} (h : f_S_word x1 x2 v = some r) : Ca l G y_S_word (.code y_S_word c_S_word 4 (some .int) :: go_TT) (rmD 3 3) 1 ad [.ref (ad (0)), .int x1, .int x2] v r := by
  unfold f_S_word at h
  refine go_body (own := RS) (by decide) rfl (Nat.le_of_ble_eq_true rfl) ?_
  show Go l G M_S_word go_Ex0 (go_E G ad 1 r 3 18) ad v [(0, .ref (ad (0))), (1, .int x1), (2, .int x2)] 0 [] 0 0
  refine go_aload_n (d_S_word 0 rfl) rfl rfl ?_
  refine go_iload_n (d_S_word 1 rfl) rfl rfl ?_
  obtain ⟨r_1, o_2, h⟩ := bd_some h
  rcases tr_some h with ⟨z_3, h⟩ | ⟨z_3, h⟩
  · refine go_cV (As := [.int x1]) (rest := []) (st2 := [.ref (ad (r_1.2.2.1))]) (c2 := 1) (s2 := 6) rfl rfl rfl rfl (Ca_S_knownIncident hl o_2)  (d_S_word 2 rfl) cw_S_107 ⟨w_366, w_4⟩ rfl (by decide) rfl ⟨by decide, by decide⟩ rfl (Nat.le_of_ble_eq_true rfl) ⟨by decide, by decide⟩ (fun _ => ?_) (fun q => absurd z_3 q)
    refine go_astore_n (lv' := [(0, .ref (ad (0))), (1, .int x1), (2, .int x2), (3, .ref (ad (r_1.2.2.1)))]) (d_S_word 5 rfl) rfl (by decide) rfl ?_
    refine go_iload_n (d_S_word 6 rfl) rfl rfl ?_
    refine go_iconst (x := (0 : Int32)) (d_S_word 7 rfl) (by decide) ?_
    refine go_bipush (x := (99 : Int32)) (d_S_word 8 rfl) (by decide) ?_
    obtain ⟨r_4, o_5, h⟩ := bd_some h
    rcases tr_some h with ⟨z_6, h⟩ | ⟨z_6, h⟩
    · refine go_cS (As := [.int x2, .int ((0 : Int32)), .int ((99 : Int32))]) (rest := []) (st2 := []) (c2 := 2) (s2 := 12) rfl rfl rfl rfl (Ca_S_refuseOutside hl o_5)  (d_S_word 10 rfl) cw_S_46 w_265 ⟨by decide, by decide⟩ rfl (Nat.le_of_ble_eq_true rfl) ⟨by decide, by decide⟩ (fun _ => ?_) (fun q => absurd z_6 q)
      refine go_aload_n (d_S_word 13 rfl) rfl rfl ?_
      obtain ⟨r_7, o_8, h⟩ := bd_some h
      rcases tr_some h with ⟨z_9, h⟩ | ⟨z_9, h⟩
      · refine go_cS (As := [.ref (ad (r_1.2.2.1))]) (rest := []) (st2 := []) (c2 := 3) (s2 := 18) rfl rfl rfl rfl (Ca_S_refuseClosed hl o_8)  (d_S_word 14 rfl) cw_S_111 w_370 ⟨by decide, by decide⟩ rfl (Nat.le_of_ble_eq_true rfl) ⟨by decide, by decide⟩ (fun _ => ?_) (fun q => absurd z_9 q)
        refine go_aload_n (d_S_word 17 rfl) rfl rfl ?_
        refine go_iload_n (d_S_word 18 rfl) rfl rfl ?_
        obtain ⟨r_10, o_11, h⟩ := bd_some h
        obtain ⟨z_12, h⟩ := nt_some h
        refine go_cV (As := [.int x2]) (rest := []) (st2 := [.int (r_10.2.1)]) (c2 := 3) (s2 := 18) rfl rfl rfl rfl (Ca_S_hasTriggerForWord hl o_11)  (d_S_word 19 rfl) cw_S_129 ⟨w_409, w_9⟩ rfl (by decide) rfl ⟨by decide, by decide⟩ rfl (Nat.le_of_ble_eq_true rfl) ⟨by decide, by decide⟩ (fun _ => ?_) (fun q => absurd z_12 q)
        rcases br_some h with ⟨c_13, h⟩ | ⟨c_13, h⟩
        · refine go_if_ne (tgt := 35) (d_S_word 22 rfl) (by decide) (fun q => absurd (of_decide_eq_true c_13) q) (fun _ => ?_)
          refine go_aload_n (d_S_word 25 rfl) rfl rfl ?_
          refine go_dup (d_S_word 26 rfl) rfl ?_
          refine go_getI (d_S_word 27 rfl) fl_S_132 rfl rfl ?_
          refine go_iconst (x := (1 : Int32)) (d_S_word 30 rfl) (by decide) ?_
          refine go_iadd (d_S_word 31 rfl) ?_
          obtain ⟨v_14, ev_14, h⟩ := ln_some h
          refine go_putI (x := ((r_10.2.2.2 0 11) + (1 : Int32))) (d_S_word 32 rfl) fp_S_132 rfl rfl rfl rfl ?_
          rw [← ev_14]
          exact b_S_word_35 hl  (x1) (x2) (r_1.2.2.1) (v_14) h
        · refine go_if_ne (tgt := 35) (d_S_word 22 rfl) (by decide) (fun _ => ?_) (fun q => absurd q (of_decide_eq_false c_13))
          exact b_S_word_35 hl  (x1) (x2) (r_1.2.2.1) (r_10.2.2.2) h
      · exact go_cS (As := [.ref (ad (r_1.2.2.1))]) (rest := []) (st2 := []) (c2 := 3) (s2 := 18) rfl rfl rfl rfl (Ca_S_refuseClosed hl o_8)  (d_S_word 14 rfl) cw_S_111 w_370 ⟨by decide, by decide⟩ rfl (Nat.le_of_ble_eq_true rfl) ⟨by decide, by decide⟩ (fun q => absurd q z_9) (fun q => gx_out q rfl h (by decide) (by decide))
    · exact go_cS (As := [.int x2, .int ((0 : Int32)), .int ((99 : Int32))]) (rest := []) (st2 := []) (c2 := 2) (s2 := 12) rfl rfl rfl rfl (Ca_S_refuseOutside hl o_5)  (d_S_word 10 rfl) cw_S_46 w_265 ⟨by decide, by decide⟩ rfl (Nat.le_of_ble_eq_true rfl) ⟨by decide, by decide⟩ (fun q => absurd q z_6) (fun q => gx_out q rfl h (by decide) (by decide))
  · exact go_cV (As := [.int x1]) (rest := []) (st2 := [.ref (ad (r_1.2.2.1))]) (c2 := 1) (s2 := 6) rfl rfl rfl rfl (Ca_S_knownIncident hl o_2)  (d_S_word 2 rfl) cw_S_107 ⟨w_366, w_4⟩ rfl (by decide) rfl ⟨by decide, by decide⟩ rfl (Nat.le_of_ble_eq_true rfl) ⟨by decide, by decide⟩ (fun q => absurd q z_3) (fun q => gx_out q rfl h (by decide) (by decide))
abbrev M_S_hurt : go_M := (c_S_hurt, 5, (some .int), RS, [], rmD 3 3)
def f_S_hurt (x1 : Int32) (x2 : Int32) (v : go_V) : Option go_R := bd (f_S_knownIncident x1 v) (fun r_1 => tr r_1 (bd (f_S_refuseOutside x2 (0 : Int32) (10000 : Int32) r_1.2.2.2) (fun r_4 => tr r_4 (bd (f_S_refuseClosed r_1.2.2.1 r_4.2.2.2) (fun r_7 => tr r_7 (gd (Nat.beq (go_cls (r_1.2.2.1)) 0) (ln (u2 r_7.2.2.2 (r_1.2.2.1) 2 x2) (fun v_11 => bd (f_S_happened r_1.2.2.1 (1 : Int32) ((r_7.2.2.2 (r_1.2.2.1) 2) + (1 : Int32)) x2 v_11) (fun r_12 => nt r_12 (some (0, r_12.2.1, 0, r_12.2.2.2)))))))))))
set_option maxHeartbeats 4000000 in
set_option maxRecDepth 100000 in
theorem Ca_S_hurt {l : Launch} {G : go_G} {ad : Nat → Nat} (hl : l.stackTraces = false) {r : go_R} {x1 : Int32} {x2 : Int32} {v : go_V} (h : f_S_hurt x1 x2 v = some r) : Ca l G y_S_hurt (.code y_S_hurt c_S_hurt 5 (some .int) :: go_TT) (rmD 3 3) 1 ad [.ref (ad (0)), .int x1, .int x2] v r := by
  unfold f_S_hurt at h
  refine go_body (own := RS) (by decide) rfl (Nat.le_of_ble_eq_true rfl) ?_
  show Go l G M_S_hurt go_Ex0 (go_E G ad 1 r 3 18) ad v [(0, .ref (ad (0))), (1, .int x1), (2, .int x2)] 0 [] 0 0
  refine go_aload_n (d_S_hurt 0 rfl) rfl rfl ?_
  refine go_iload_n (d_S_hurt 1 rfl) rfl rfl ?_
  obtain ⟨r_1, o_2, h⟩ := bd_some h
  rcases tr_some h with ⟨z_3, h⟩ | ⟨z_3, h⟩
  · refine go_cV (As := [.int x1]) (rest := []) (st2 := [.ref (ad (r_1.2.2.1))]) (c2 := 1) (s2 := 6) rfl rfl rfl rfl (Ca_S_knownIncident hl o_2)  (d_S_hurt 2 rfl) cw_S_107 ⟨w_366, w_4⟩ rfl (by decide) rfl ⟨by decide, by decide⟩ rfl (Nat.le_of_ble_eq_true rfl) ⟨by decide, by decide⟩ (fun _ => ?_) (fun q => absurd z_3 q)
    refine go_astore_n (lv' := [(0, .ref (ad (0))), (1, .int x1), (2, .int x2), (3, .ref (ad (r_1.2.2.1)))]) (d_S_hurt 5 rfl) rfl (by decide) rfl ?_
    refine go_iload_n (d_S_hurt 6 rfl) rfl rfl ?_
    refine go_iconst (x := (0 : Int32)) (d_S_hurt 7 rfl) (by decide) ?_
    refine go_sipush (x := (10000 : Int32)) (d_S_hurt 8 rfl) (by decide) ?_
    obtain ⟨r_4, o_5, h⟩ := bd_some h
    rcases tr_some h with ⟨z_6, h⟩ | ⟨z_6, h⟩
    · refine go_cS (As := [.int x2, .int ((0 : Int32)), .int ((10000 : Int32))]) (rest := []) (st2 := []) (c2 := 2) (s2 := 12) rfl rfl rfl rfl (Ca_S_refuseOutside hl o_5)  (d_S_hurt 11 rfl) cw_S_46 w_265 ⟨by decide, by decide⟩ rfl (Nat.le_of_ble_eq_true rfl) ⟨by decide, by decide⟩ (fun _ => ?_) (fun q => absurd z_6 q)
      refine go_aload_n (d_S_hurt 14 rfl) rfl rfl ?_
      obtain ⟨r_7, o_8, h⟩ := bd_some h
      rcases tr_some h with ⟨z_9, h⟩ | ⟨z_9, h⟩
      · refine go_cS (As := [.ref (ad (r_1.2.2.1))]) (rest := []) (st2 := []) (c2 := 3) (s2 := 18) rfl rfl rfl rfl (Ca_S_refuseClosed hl o_8)  (d_S_hurt 15 rfl) cw_S_111 w_370 ⟨by decide, by decide⟩ rfl (Nat.le_of_ble_eq_true rfl) ⟨by decide, by decide⟩ (fun _ => ?_) (fun q => absurd z_9 q)
        refine go_aload_n (d_S_hurt 18 rfl) rfl rfl ?_
        obtain ⟨g_10, h⟩ := gd_some h
        refine go_getI (d_S_hurt 19 rfl) fl_S_139 (Nat.eq_of_beq_eq_true g_10) rfl ?_
        refine go_istore (lv' := [(0, .ref (ad (0))), (1, .int x1), (2, .int x2), (3, .ref (ad (r_1.2.2.1))), (4, .int ((r_7.2.2.2 (r_1.2.2.1) 2)))]) (d_S_hurt 22 rfl) (by decide) rfl ?_
        refine go_aload_n (d_S_hurt 24 rfl) rfl rfl ?_
        refine go_iload_n (d_S_hurt 25 rfl) rfl rfl ?_
        obtain ⟨v_11, ev_11, h⟩ := ln_some h
        refine go_putI (x := x2) (d_S_hurt 26 rfl) fp_S_139 (Nat.eq_of_beq_eq_true g_10) rfl rfl rfl ?_
        rw [← ev_11]
        refine go_aload_n (d_S_hurt 29 rfl) rfl rfl ?_
        refine go_aload_n (d_S_hurt 30 rfl) rfl rfl ?_
        refine go_iconst (x := (1 : Int32)) (d_S_hurt 31 rfl) (by decide) ?_
        refine go_iload (d_S_hurt 32 rfl) rfl ?_
        refine go_iconst (x := (1 : Int32)) (d_S_hurt 34 rfl) (by decide) ?_
        refine go_iadd (d_S_hurt 35 rfl) ?_
        refine go_iload_n (d_S_hurt 36 rfl) rfl rfl ?_
        obtain ⟨r_12, o_13, h⟩ := bd_some h
        obtain ⟨z_14, h⟩ := nt_some h
        refine go_cV (As := [.ref (ad (r_1.2.2.1)), .int ((1 : Int32)), .int (((r_7.2.2.2 (r_1.2.2.1) 2) + (1 : Int32))), .int x2]) (rest := []) (st2 := [.int (r_12.2.1)]) (c2 := 3) (s2 := 18) rfl rfl rfl rfl (Ca_S_happened hl o_13)  (d_S_hurt 37 rfl) cw_S_135 ⟨w_417, w_11⟩ rfl (by decide) rfl ⟨by decide, by decide⟩ rfl (Nat.le_of_ble_eq_true rfl) ⟨by decide, by decide⟩ (fun _ => ?_) (fun q => absurd z_14 q)
        exact go_iret (d_S_hurt 40 rfl) rfl rfl (Option.some.inj h) (by decide) (by decide)
      · exact go_cS (As := [.ref (ad (r_1.2.2.1))]) (rest := []) (st2 := []) (c2 := 3) (s2 := 18) rfl rfl rfl rfl (Ca_S_refuseClosed hl o_8)  (d_S_hurt 15 rfl) cw_S_111 w_370 ⟨by decide, by decide⟩ rfl (Nat.le_of_ble_eq_true rfl) ⟨by decide, by decide⟩ (fun q => absurd q z_9) (fun q => gx_out q rfl h (by decide) (by decide))
    · exact go_cS (As := [.int x2, .int ((0 : Int32)), .int ((10000 : Int32))]) (rest := []) (st2 := []) (c2 := 2) (s2 := 12) rfl rfl rfl rfl (Ca_S_refuseOutside hl o_5)  (d_S_hurt 11 rfl) cw_S_46 w_265 ⟨by decide, by decide⟩ rfl (Nat.le_of_ble_eq_true rfl) ⟨by decide, by decide⟩ (fun q => absurd q z_6) (fun q => gx_out q rfl h (by decide) (by decide))
  · exact go_cV (As := [.int x1]) (rest := []) (st2 := [.ref (ad (r_1.2.2.1))]) (c2 := 1) (s2 := 6) rfl rfl rfl rfl (Ca_S_knownIncident hl o_2)  (d_S_hurt 2 rfl) cw_S_107 ⟨w_366, w_4⟩ rfl (by decide) rfl ⟨by decide, by decide⟩ rfl (Nat.le_of_ble_eq_true rfl) ⟨by decide, by decide⟩ (fun q => absurd q z_3) (fun q => gx_out q rfl h (by decide) (by decide))
abbrev M_S_ask : go_M := (c_S_ask, 4, (some .int), RS, [], rmD 3 3)
def f_S_ask (x1 : Int32) (x2 : Int32) (v : go_V) : Option go_R := bd (f_S_knownIncident x1 v) (fun r_1 => tr r_1 (bd (f_S_refuseOutside x2 (0 : Int32) (9 : Int32) r_1.2.2.2) (fun r_4 => tr r_4 (bd (f_S_refuseClosed r_1.2.2.1 r_4.2.2.2) (fun r_7 => tr r_7 (bd (f_S_happened r_1.2.2.1 (3 : Int32) x2 x2 r_7.2.2.2) (fun r_10 => nt r_10 (some (0, r_10.2.1, 0, r_10.2.2.2)))))))))
set_option maxHeartbeats 4000000 in
set_option maxRecDepth 100000 in
theorem Ca_S_ask {l : Launch} {G : go_G} {ad : Nat → Nat} (hl : l.stackTraces = false) {r : go_R} {x1 : Int32} {x2 : Int32} {v : go_V} (h : f_S_ask x1 x2 v = some r) : Ca l G y_S_ask (.code y_S_ask c_S_ask 4 (some .int) :: go_TT) (rmD 3 3) 1 ad [.ref (ad (0)), .int x1, .int x2] v r := by
  unfold f_S_ask at h
  refine go_body (own := RS) (by decide) rfl (Nat.le_of_ble_eq_true rfl) ?_
  show Go l G M_S_ask go_Ex0 (go_E G ad 1 r 3 18) ad v [(0, .ref (ad (0))), (1, .int x1), (2, .int x2)] 0 [] 0 0
  refine go_aload_n (d_S_ask 0 rfl) rfl rfl ?_
  refine go_iload_n (d_S_ask 1 rfl) rfl rfl ?_
  obtain ⟨r_1, o_2, h⟩ := bd_some h
  rcases tr_some h with ⟨z_3, h⟩ | ⟨z_3, h⟩
  · refine go_cV (As := [.int x1]) (rest := []) (st2 := [.ref (ad (r_1.2.2.1))]) (c2 := 1) (s2 := 6) rfl rfl rfl rfl (Ca_S_knownIncident hl o_2)  (d_S_ask 2 rfl) cw_S_107 ⟨w_366, w_4⟩ rfl (by decide) rfl ⟨by decide, by decide⟩ rfl (Nat.le_of_ble_eq_true rfl) ⟨by decide, by decide⟩ (fun _ => ?_) (fun q => absurd z_3 q)
    refine go_astore_n (lv' := [(0, .ref (ad (0))), (1, .int x1), (2, .int x2), (3, .ref (ad (r_1.2.2.1)))]) (d_S_ask 5 rfl) rfl (by decide) rfl ?_
    refine go_iload_n (d_S_ask 6 rfl) rfl rfl ?_
    refine go_iconst (x := (0 : Int32)) (d_S_ask 7 rfl) (by decide) ?_
    refine go_bipush (x := (9 : Int32)) (d_S_ask 8 rfl) (by decide) ?_
    obtain ⟨r_4, o_5, h⟩ := bd_some h
    rcases tr_some h with ⟨z_6, h⟩ | ⟨z_6, h⟩
    · refine go_cS (As := [.int x2, .int ((0 : Int32)), .int ((9 : Int32))]) (rest := []) (st2 := []) (c2 := 2) (s2 := 12) rfl rfl rfl rfl (Ca_S_refuseOutside hl o_5)  (d_S_ask 10 rfl) cw_S_46 w_265 ⟨by decide, by decide⟩ rfl (Nat.le_of_ble_eq_true rfl) ⟨by decide, by decide⟩ (fun _ => ?_) (fun q => absurd z_6 q)
      refine go_aload_n (d_S_ask 13 rfl) rfl rfl ?_
      obtain ⟨r_7, o_8, h⟩ := bd_some h
      rcases tr_some h with ⟨z_9, h⟩ | ⟨z_9, h⟩
      · refine go_cS (As := [.ref (ad (r_1.2.2.1))]) (rest := []) (st2 := []) (c2 := 3) (s2 := 18) rfl rfl rfl rfl (Ca_S_refuseClosed hl o_8)  (d_S_ask 14 rfl) cw_S_111 w_370 ⟨by decide, by decide⟩ rfl (Nat.le_of_ble_eq_true rfl) ⟨by decide, by decide⟩ (fun _ => ?_) (fun q => absurd z_9 q)
        refine go_aload_n (d_S_ask 17 rfl) rfl rfl ?_
        refine go_aload_n (d_S_ask 18 rfl) rfl rfl ?_
        refine go_iconst (x := (3 : Int32)) (d_S_ask 19 rfl) (by decide) ?_
        refine go_iload_n (d_S_ask 20 rfl) rfl rfl ?_
        refine go_iload_n (d_S_ask 21 rfl) rfl rfl ?_
        obtain ⟨r_10, o_11, h⟩ := bd_some h
        obtain ⟨z_12, h⟩ := nt_some h
        refine go_cV (As := [.ref (ad (r_1.2.2.1)), .int ((3 : Int32)), .int x2, .int x2]) (rest := []) (st2 := [.int (r_10.2.1)]) (c2 := 3) (s2 := 18) rfl rfl rfl rfl (Ca_S_happened hl o_11)  (d_S_ask 22 rfl) cw_S_135 ⟨w_417, w_11⟩ rfl (by decide) rfl ⟨by decide, by decide⟩ rfl (Nat.le_of_ble_eq_true rfl) ⟨by decide, by decide⟩ (fun _ => ?_) (fun q => absurd z_12 q)
        exact go_iret (d_S_ask 25 rfl) rfl rfl (Option.some.inj h) (by decide) (by decide)
      · exact go_cS (As := [.ref (ad (r_1.2.2.1))]) (rest := []) (st2 := []) (c2 := 3) (s2 := 18) rfl rfl rfl rfl (Ca_S_refuseClosed hl o_8)  (d_S_ask 14 rfl) cw_S_111 w_370 ⟨by decide, by decide⟩ rfl (Nat.le_of_ble_eq_true rfl) ⟨by decide, by decide⟩ (fun q => absurd q z_9) (fun q => gx_out q rfl h (by decide) (by decide))
    · exact go_cS (As := [.int x2, .int ((0 : Int32)), .int ((9 : Int32))]) (rest := []) (st2 := []) (c2 := 2) (s2 := 12) rfl rfl rfl rfl (Ca_S_refuseOutside hl o_5)  (d_S_ask 10 rfl) cw_S_46 w_265 ⟨by decide, by decide⟩ rfl (Nat.le_of_ble_eq_true rfl) ⟨by decide, by decide⟩ (fun q => absurd q z_6) (fun q => gx_out q rfl h (by decide) (by decide))
  · exact go_cV (As := [.int x1]) (rest := []) (st2 := [.ref (ad (r_1.2.2.1))]) (c2 := 1) (s2 := 6) rfl rfl rfl rfl (Ca_S_knownIncident hl o_2)  (d_S_ask 2 rfl) cw_S_107 ⟨w_366, w_4⟩ rfl (by decide) rfl ⟨by decide, by decide⟩ rfl (Nat.le_of_ble_eq_true rfl) ⟨by decide, by decide⟩ (fun q => absurd q z_3) (fun q => gx_out q rfl h (by decide) (by decide))
abbrev M_S_tell : go_M := (c_S_tell, 3, none, RS, [], rmD 1 2)
def f_S_tell (x1 : Int32) (v : go_V) : Option go_R := bd (f_S_knownIncident x1 v) (fun r_1 => tr r_1 (bd (f_S_refuseClosed r_1.2.2.1 r_1.2.2.2) (fun r_4 => tr r_4 (gd (Nat.beq (go_cls (r_1.2.2.1)) 0) (ln (u2 r_4.2.2.2 (r_1.2.2.1) 3 (r_4.2.2.2 0 2)) (fun v_8 => some (0, 0, 0, v_8)))))))
set_option maxHeartbeats 4000000 in
set_option maxRecDepth 100000 in
theorem Ca_S_tell {l : Launch} {G : go_G} {ad : Nat → Nat} (hl : l.stackTraces = false) {r : go_R} {x1 : Int32} {v : go_V} (h : f_S_tell x1 v = some r) : Ca l G y_S_tell (.code y_S_tell c_S_tell 3 none :: go_TT) (rmD 1 2) 0 ad [.ref (ad (0)), .int x1] v r := by
  unfold f_S_tell at h
  refine go_body (own := RS) (by decide) rfl (Nat.le_of_ble_eq_true rfl) ?_
  show Go l G M_S_tell go_Ex0 (go_E G ad 0 r 2 12) ad v [(0, .ref (ad (0))), (1, .int x1)] 0 [] 0 0
  refine go_aload_n (d_S_tell 0 rfl) rfl rfl ?_
  refine go_iload_n (d_S_tell 1 rfl) rfl rfl ?_
  obtain ⟨r_1, o_2, h⟩ := bd_some h
  rcases tr_some h with ⟨z_3, h⟩ | ⟨z_3, h⟩
  · refine go_cV (As := [.int x1]) (rest := []) (st2 := [.ref (ad (r_1.2.2.1))]) (c2 := 1) (s2 := 6) rfl rfl rfl rfl (Ca_S_knownIncident hl o_2)  (d_S_tell 2 rfl) cw_S_107 ⟨w_366, w_4⟩ rfl (by decide) rfl ⟨by decide, by decide⟩ rfl (Nat.le_of_ble_eq_true rfl) ⟨by decide, by decide⟩ (fun _ => ?_) (fun q => absurd z_3 q)
    refine go_astore_n (lv' := [(0, .ref (ad (0))), (1, .int x1), (2, .ref (ad (r_1.2.2.1)))]) (d_S_tell 5 rfl) rfl (by decide) rfl ?_
    refine go_aload_n (d_S_tell 6 rfl) rfl rfl ?_
    obtain ⟨r_4, o_5, h⟩ := bd_some h
    rcases tr_some h with ⟨z_6, h⟩ | ⟨z_6, h⟩
    · refine go_cS (As := [.ref (ad (r_1.2.2.1))]) (rest := []) (st2 := []) (c2 := 2) (s2 := 12) rfl rfl rfl rfl (Ca_S_refuseClosed hl o_5)  (d_S_tell 7 rfl) cw_S_111 w_370 ⟨by decide, by decide⟩ rfl (Nat.le_of_ble_eq_true rfl) ⟨by decide, by decide⟩ (fun _ => ?_) (fun q => absurd z_6 q)
      refine go_aload_n (d_S_tell 10 rfl) rfl rfl ?_
      refine go_aload_n (d_S_tell 11 rfl) rfl rfl ?_
      refine go_getI (d_S_tell 12 rfl) fl_S_101 rfl rfl ?_
      obtain ⟨g_7, h⟩ := gd_some h
      obtain ⟨v_8, ev_8, h⟩ := ln_some h
      refine go_putI (x := (r_4.2.2.2 0 2)) (d_S_tell 15 rfl) fp_S_104 (Nat.eq_of_beq_eq_true g_7) rfl rfl rfl ?_
      rw [← ev_8]
      exact go_vret (d_S_tell 18 rfl) rfl (Option.some.inj h) (by decide) (by decide)
    · exact go_cS (As := [.ref (ad (r_1.2.2.1))]) (rest := []) (st2 := []) (c2 := 2) (s2 := 12) rfl rfl rfl rfl (Ca_S_refuseClosed hl o_5)  (d_S_tell 7 rfl) cw_S_111 w_370 ⟨by decide, by decide⟩ rfl (Nat.le_of_ble_eq_true rfl) ⟨by decide, by decide⟩ (fun q => absurd q z_6) (fun q => gx_out q rfl h (by decide) (by decide))
  · exact go_cV (As := [.int x1]) (rest := []) (st2 := [.ref (ad (r_1.2.2.1))]) (c2 := 1) (s2 := 6) rfl rfl rfl rfl (Ca_S_knownIncident hl o_2)  (d_S_tell 2 rfl) cw_S_107 ⟨w_366, w_4⟩ rfl (by decide) rfl ⟨by decide, by decide⟩ rfl (Nat.le_of_ble_eq_true rfl) ⟨by decide, by decide⟩ (fun q => absurd q z_3) (fun q => gx_out q rfl h (by decide) (by decide))
abbrev M_S_calm : go_M := (c_S_calm, 6, (some .int), RS, [], rmD 3 4)
def f_S_calm_53  : Nat → Int32 → Int32 → Nat → Int32 → Int32 → go_V → Option go_R
  | 0, _, _, _, _, _, _ => none
  | n + 1, x1, x2, k3, x4, x5, v => br (decide ((8 : Int32) ≤ x5)) (ln (u2 v 0 12 ((v 0 12) + x4)) (fun v_2 => some (0, x4, 0, v_2))) (gd (go_in x2 10) (ln (go_elt 1 x2.toNatClampNeg) (fun k_4 => gd (Nat.beq (go_cls (k_4)) 10) (gd (go_in x5 (go_len (k_4))) (bd (f_S_recallTooMuch x1 x5 (v (k_4) x5.toNatClampNeg) v) (fun r_7 => nt r_7 (f_S_calm_53 n (x1) (x2) (k3) ((x4 + r_7.2.1)) ((x5 + 1)) (r_7.2.2.2))))))))
set_option maxHeartbeats 4000000 in
set_option maxRecDepth 100000 in
theorem b_S_calm_53 {l : Launch} {G : go_G} {ad : Nat → Nat} (hl : l.stackTraces = false) {r : go_R}  : ∀ (n : Nat) (x1 : Int32) (x2 : Int32) (k3 : Nat) (x4 : Int32) (x5 : Int32) (v : go_V), f_S_calm_53  n x1 x2 k3 x4 x5 v = some r → Go l G M_S_calm go_Ex0 (go_E G ad 1 r 4 24) ad v [(0, .ref (ad (0))), (1, .int x1), (2, .int x2), (3, .ref (ad (k3))), (4, .int x4), (5, .int x5)] 53 [] 3 18 := by
  intro n
  induction n with
  | zero =>
    intro x1 x2 k3 x4 x5 v h
    cases h
  | succ n ih =>
    intro x1 x2 k3 x4 x5 v h
    rw [f_S_calm_53] at h
    refine go_iload (d_S_calm 53 rfl) rfl ?_
    refine go_bipush (x := (8 : Int32)) (d_S_calm 55 rfl) (by decide) ?_
    rcases br_some h with ⟨c_1, h⟩ | ⟨c_1, h⟩
    · refine go_icmp_ge (tgt := 87) (d_S_calm 57 rfl) (by decide) (fun _ => ?_) (fun q => absurd (of_decide_eq_true c_1) q)
      refine go_aload_n (d_S_calm 87 rfl) rfl rfl ?_
      refine go_dup (d_S_calm 88 rfl) rfl ?_
      refine go_getI (d_S_calm 89 rfl) fl_S_154 rfl rfl ?_
      refine go_iload (d_S_calm 92 rfl) rfl ?_
      refine go_iadd (d_S_calm 94 rfl) ?_
      obtain ⟨v_2, ev_2, h⟩ := ln_some h
      refine go_putI (x := ((v 0 12) + x4)) (d_S_calm 95 rfl) fp_S_154 rfl rfl rfl rfl ?_
      rw [← ev_2]
      refine go_iload (d_S_calm 98 rfl) rfl ?_
      exact go_iret (d_S_calm 100 rfl) rfl rfl (Option.some.inj h) (by decide) (by decide)
    · refine go_icmp_ge (tgt := 87) (d_S_calm 57 rfl) (by decide) (fun q => absurd q (of_decide_eq_false c_1)) (fun _ => ?_)
      refine go_iload (d_S_calm 60 rfl) rfl ?_
      refine go_aload_n (d_S_calm 62 rfl) rfl rfl ?_
      refine go_iload_n (d_S_calm 63 rfl) rfl rfl ?_
      refine go_iload (d_S_calm 64 rfl) rfl ?_
      refine go_aload_n (d_S_calm 66 rfl) rfl rfl ?_
      refine go_getR (d_S_calm 67 rfl) fl_S_11 rfl rfl ?_
      show Go _ _ _ _ _ _ _ _ _ (.ref (ad (1)) :: .int x5 :: .int x1 :: .ref (ad (0)) :: .int x4 :: []) _ _
      refine go_iload_n (d_S_calm 70 rfl) rfl rfl ?_
      obtain ⟨g_3, h⟩ := gd_some h
      obtain ⟨k_4, ek_4, h⟩ := ln_some h
      refine go_aald (c := 16) (d_S_calm 71 rfl) rfl (by decide) g_3 ?_
      rw [← ek_4]
      refine go_iload (d_S_calm 72 rfl) rfl ?_
      obtain ⟨g_5, h⟩ := gd_some h
      obtain ⟨g_6, h⟩ := gd_some h
      refine go_iald (d_S_calm 74 rfl) (Nat.eq_of_beq_eq_true g_5) g_6 ?_
      obtain ⟨r_7, o_8, h⟩ := bd_some h
      obtain ⟨z_9, h⟩ := nt_some h
      refine go_cV (As := [.int x1, .int x5, .int ((v (k_4) x5.toNatClampNeg))]) (rest := [.int x4]) (st2 := [.int (r_7.2.1), .int x4]) (c2 := 3) (s2 := 18) rfl rfl rfl rfl (Ca_S_recallTooMuch hl o_8)  (d_S_calm 75 rfl) cw_S_150 ⟨w_450, w_12⟩ rfl (by decide) rfl ⟨by decide, by decide⟩ rfl (Nat.le_of_ble_eq_true rfl) ⟨by decide, by decide⟩ (fun _ => ?_) (fun q => absurd z_9 q)
      refine go_iadd (d_S_calm 78 rfl) ?_
      refine go_istore (lv' := [(0, .ref (ad (0))), (1, .int x1), (2, .int x2), (3, .ref (ad (k3))), (4, .int ((x4 + r_7.2.1))), (5, .int x5)]) (d_S_calm 79 rfl) (by decide) rfl ?_
      refine go_iinc (y := (x5 + 1)) (lv' := [(0, .ref (ad (0))), (1, .int x1), (2, .int x2), (3, .ref (ad (k3))), (4, .int ((x4 + r_7.2.1))), (5, .int ((x5 + 1)))]) (d_S_calm 81 rfl) rfl rfl (by decide) rfl ?_
      refine go_goto (tgt := 53) (d_S_calm 84 rfl) (by decide) ?_
      exact ih (x1) (x2) (k3) ((x4 + r_7.2.1)) ((x5 + 1)) (r_7.2.2.2) h
def f_S_calm (x1 : Int32) (x2 : Int32) (v : go_V) : Option go_R := bd (f_S_knownIncident x1 v) (fun r_1 => tr r_1 (bd (f_S_refuseUnknownStep x2 r_1.2.2.2) (fun r_4 => tr r_4 (bd (f_S_refuseClosed r_1.2.2.1 r_4.2.2.2) (fun r_7 => tr r_7 (gd (Nat.beq (go_cls (r_1.2.2.1)) 0) (br (decide (x2 < (r_7.2.2.2 (r_1.2.2.1) 1))) (ln (u2 r_7.2.2.2 (r_1.2.2.1) 1 x2) (fun v_12 => ln (u2 v_12 (r_1.2.2.1) 6 ((v_12 (r_1.2.2.1) 6) + (1 : Int32))) (fun v_13 => f_S_calm_53  FU (x1) (x2) (r_1.2.2.1) ((0 : Int32)) ((0 : Int32)) (v_13)))) (some (3, 0, 0, r_7.2.2.2)))))))))
set_option maxHeartbeats 4000000 in
set_option maxRecDepth 100000 in
theorem Ca_S_calm {l : Launch} {G : go_G} {ad : Nat → Nat} (hl : l.stackTraces = false) {r : go_R} {x1 : Int32} {x2 : Int32} {v : go_V} (h : f_S_calm x1 x2 v = some r) : Ca l G y_S_calm (.code y_S_calm c_S_calm 6 (some .int) :: go_TT) (rmD 3 4) 1 ad [.ref (ad (0)), .int x1, .int x2] v r := by
  unfold f_S_calm at h
  refine go_body (own := RS) (by decide) rfl (Nat.le_of_ble_eq_true rfl) ?_
  show Go l G M_S_calm go_Ex0 (go_E G ad 1 r 4 24) ad v [(0, .ref (ad (0))), (1, .int x1), (2, .int x2)] 0 [] 0 0
  refine go_aload_n (d_S_calm 0 rfl) rfl rfl ?_
  refine go_iload_n (d_S_calm 1 rfl) rfl rfl ?_
  obtain ⟨r_1, o_2, h⟩ := bd_some h
  rcases tr_some h with ⟨z_3, h⟩ | ⟨z_3, h⟩
  · refine go_cV (As := [.int x1]) (rest := []) (st2 := [.ref (ad (r_1.2.2.1))]) (c2 := 1) (s2 := 6) rfl rfl rfl rfl (Ca_S_knownIncident hl o_2)  (d_S_calm 2 rfl) cw_S_107 ⟨w_366, w_4⟩ rfl (by decide) rfl ⟨by decide, by decide⟩ rfl (Nat.le_of_ble_eq_true rfl) ⟨by decide, by decide⟩ (fun _ => ?_) (fun q => absurd z_3 q)
    refine go_astore_n (lv' := [(0, .ref (ad (0))), (1, .int x1), (2, .int x2), (3, .ref (ad (r_1.2.2.1)))]) (d_S_calm 5 rfl) rfl (by decide) rfl ?_
    refine go_iload_n (d_S_calm 6 rfl) rfl rfl ?_
    obtain ⟨r_4, o_5, h⟩ := bd_some h
    rcases tr_some h with ⟨z_6, h⟩ | ⟨z_6, h⟩
    · refine go_cS (As := [.int x2]) (rest := []) (st2 := []) (c2 := 2) (s2 := 12) rfl rfl rfl rfl (Ca_S_refuseUnknownStep hl o_5)  (d_S_calm 7 rfl) cw_S_39 w_189 ⟨by decide, by decide⟩ rfl (Nat.le_of_ble_eq_true rfl) ⟨by decide, by decide⟩ (fun _ => ?_) (fun q => absurd z_6 q)
      refine go_aload_n (d_S_calm 10 rfl) rfl rfl ?_
      obtain ⟨r_7, o_8, h⟩ := bd_some h
      rcases tr_some h with ⟨z_9, h⟩ | ⟨z_9, h⟩
      · refine go_cS (As := [.ref (ad (r_1.2.2.1))]) (rest := []) (st2 := []) (c2 := 3) (s2 := 18) rfl rfl rfl rfl (Ca_S_refuseClosed hl o_8)  (d_S_calm 11 rfl) cw_S_111 w_370 ⟨by decide, by decide⟩ rfl (Nat.le_of_ble_eq_true rfl) ⟨by decide, by decide⟩ (fun _ => ?_) (fun q => absurd z_9 q)
        refine go_aload_n (d_S_calm 14 rfl) rfl rfl ?_
        obtain ⟨g_10, h⟩ := gd_some h
        refine go_getI (d_S_calm 15 rfl) fl_S_142 (Nat.eq_of_beq_eq_true g_10) rfl ?_
        refine go_iload_n (d_S_calm 18 rfl) rfl rfl ?_
        rcases br_some h with ⟨c_11, h⟩ | ⟨c_11, h⟩
        · refine go_icmp_gt (tgt := 32) (d_S_calm 19 rfl) (by decide) (fun _ => ?_) (fun q => absurd (of_decide_eq_true c_11) q)
          refine go_aload_n (d_S_calm 32 rfl) rfl rfl ?_
          refine go_iload_n (d_S_calm 33 rfl) rfl rfl ?_
          obtain ⟨v_12, ev_12, h⟩ := ln_some h
          refine go_putI (x := x2) (d_S_calm 34 rfl) fp_S_142 (Nat.eq_of_beq_eq_true g_10) rfl rfl rfl ?_
          rw [← ev_12]
          refine go_aload_n (d_S_calm 37 rfl) rfl rfl ?_
          refine go_dup (d_S_calm 38 rfl) rfl ?_
          refine go_getI (d_S_calm 39 rfl) fl_S_147 (Nat.eq_of_beq_eq_true g_10) rfl ?_
          refine go_iconst (x := (1 : Int32)) (d_S_calm 42 rfl) (by decide) ?_
          refine go_iadd (d_S_calm 43 rfl) ?_
          obtain ⟨v_13, ev_13, h⟩ := ln_some h
          refine go_putI (x := ((v_12 (r_1.2.2.1) 6) + (1 : Int32))) (d_S_calm 44 rfl) fp_S_147 (Nat.eq_of_beq_eq_true g_10) rfl rfl rfl ?_
          rw [← ev_13]
          refine go_iconst (x := (0 : Int32)) (d_S_calm 47 rfl) (by decide) ?_
          refine go_istore (lv' := [(0, .ref (ad (0))), (1, .int x1), (2, .int x2), (3, .ref (ad (r_1.2.2.1))), (4, .int ((0 : Int32)))]) (d_S_calm 48 rfl) (by decide) rfl ?_
          refine go_iconst (x := (0 : Int32)) (d_S_calm 50 rfl) (by decide) ?_
          refine go_istore (lv' := [(0, .ref (ad (0))), (1, .int x1), (2, .int x2), (3, .ref (ad (r_1.2.2.1))), (4, .int ((0 : Int32))), (5, .int ((0 : Int32)))]) (d_S_calm 51 rfl) (by decide) rfl ?_
          exact b_S_calm_53 hl  FU (x1) (x2) (r_1.2.2.1) ((0 : Int32)) ((0 : Int32)) (v_13) h
        · refine go_icmp_gt (tgt := 32) (d_S_calm 19 rfl) (by decide) (fun q => absurd q (of_decide_eq_false c_11)) (fun _ => ?_)
          exact go_thr (text := "the incident\'s step is not above this one") hl xs_54_58_3 (by decide +kernel) rfl rfl (d_S_calm 22 rfl) (d_S_calm 25 rfl) (d_S_calm 26 rfl) (d_S_calm 28 rfl) (d_S_calm 31 rfl) ⟨by decide, Nat.le_of_ble_eq_true rfl, by decide, by decide⟩ (Option.some.inj h) (by decide) (by decide)
      · exact go_cS (As := [.ref (ad (r_1.2.2.1))]) (rest := []) (st2 := []) (c2 := 3) (s2 := 18) rfl rfl rfl rfl (Ca_S_refuseClosed hl o_8)  (d_S_calm 11 rfl) cw_S_111 w_370 ⟨by decide, by decide⟩ rfl (Nat.le_of_ble_eq_true rfl) ⟨by decide, by decide⟩ (fun q => absurd q z_9) (fun q => gx_out q rfl h (by decide) (by decide))
    · exact go_cS (As := [.int x2]) (rest := []) (st2 := []) (c2 := 2) (s2 := 12) rfl rfl rfl rfl (Ca_S_refuseUnknownStep hl o_5)  (d_S_calm 7 rfl) cw_S_39 w_189 ⟨by decide, by decide⟩ rfl (Nat.le_of_ble_eq_true rfl) ⟨by decide, by decide⟩ (fun q => absurd q z_6) (fun q => gx_out q rfl h (by decide) (by decide))
  · exact go_cV (As := [.int x1]) (rest := []) (st2 := [.ref (ad (r_1.2.2.1))]) (c2 := 1) (s2 := 6) rfl rfl rfl rfl (Ca_S_knownIncident hl o_2)  (d_S_calm 2 rfl) cw_S_107 ⟨w_366, w_4⟩ rfl (by decide) rfl ⟨by decide, by decide⟩ rfl (Nat.le_of_ble_eq_true rfl) ⟨by decide, by decide⟩ (fun q => absurd q z_3) (fun q => gx_out q rfl h (by decide) (by decide))
abbrev M_S_unit : go_M := (c_S_unit, 3, (some .int), RS, [], rmD 1 2)
def f_S_unit (x1 : Int32) (v : go_V) : Option go_R := bd (f_S_refuseUnknownSkill x1 v) (fun r_1 => tr r_1 (br (decide ((r_1.2.2.2 0 10) < (40 : Int32))) (ln (u2 r_1.2.2.2 0 10 ((r_1.2.2.2 0 10) + (1 : Int32))) (fun v_5 => gd (go_in (r_1.2.2.2 0 10) 40) (ln (go_elt 15 (r_1.2.2.2 0 10).toNatClampNeg) (fun k_7 => gd (Nat.beq (go_cls (k_7)) 2) (ln (u2 v_5 (k_7) 0 x1) (fun v_9 => some (0, (r_1.2.2.2 0 10), 0, v_9))))))) (some (4, 0, 0, r_1.2.2.2))))
set_option maxHeartbeats 4000000 in
set_option maxRecDepth 100000 in
theorem Ca_S_unit {l : Launch} {G : go_G} {ad : Nat → Nat} (hl : l.stackTraces = false) {r : go_R} {x1 : Int32} {v : go_V} (h : f_S_unit x1 v = some r) : Ca l G y_S_unit (.code y_S_unit c_S_unit 3 (some .int) :: go_TT) (rmD 1 2) 1 ad [.ref (ad (0)), .int x1] v r := by
  unfold f_S_unit at h
  refine go_body (own := RS) (by decide) rfl (Nat.le_of_ble_eq_true rfl) ?_
  show Go l G M_S_unit go_Ex0 (go_E G ad 1 r 2 12) ad v [(0, .ref (ad (0))), (1, .int x1)] 0 [] 0 0
  refine go_iload_n (d_S_unit 0 rfl) rfl rfl ?_
  obtain ⟨r_1, o_2, h⟩ := bd_some h
  rcases tr_some h with ⟨z_3, h⟩ | ⟨z_3, h⟩
  · refine go_cS (As := [.int x1]) (rest := []) (st2 := []) (c2 := 1) (s2 := 6) rfl rfl rfl rfl (Ca_S_refuseUnknownSkill hl o_2)  (d_S_unit 1 rfl) cw_S_43 w_261 ⟨by decide, by decide⟩ rfl (Nat.le_of_ble_eq_true rfl) ⟨by decide, by decide⟩ (fun _ => ?_) (fun q => absurd z_3 q)
    refine go_aload_n (d_S_unit 4 rfl) rfl rfl ?_
    refine go_getI (d_S_unit 5 rfl) fl_S_115 rfl rfl ?_
    refine go_bipush (x := (40 : Int32)) (d_S_unit 8 rfl) (by decide) ?_
    rcases br_some h with ⟨c_4, h⟩ | ⟨c_4, h⟩
    · refine go_icmp_lt (tgt := 23) (d_S_unit 10 rfl) (by decide) (fun _ => ?_) (fun q => absurd (of_decide_eq_true c_4) q)
      refine go_aload_n (d_S_unit 23 rfl) rfl rfl ?_
      refine go_getI (d_S_unit 24 rfl) fl_S_115 rfl rfl ?_
      refine go_istore_n (lv' := [(0, .ref (ad (0))), (1, .int x1), (2, .int ((r_1.2.2.2 0 10)))]) (d_S_unit 27 rfl) rfl (by decide) rfl ?_
      refine go_aload_n (d_S_unit 28 rfl) rfl rfl ?_
      refine go_dup (d_S_unit 29 rfl) rfl ?_
      refine go_getI (d_S_unit 30 rfl) fl_S_115 rfl rfl ?_
      refine go_iconst (x := (1 : Int32)) (d_S_unit 33 rfl) (by decide) ?_
      refine go_iadd (d_S_unit 34 rfl) ?_
      obtain ⟨v_5, ev_5, h⟩ := ln_some h
      refine go_putI (x := ((r_1.2.2.2 0 10) + (1 : Int32))) (d_S_unit 35 rfl) fp_S_115 rfl rfl rfl rfl ?_
      rw [← ev_5]
      refine go_aload_n (d_S_unit 38 rfl) rfl rfl ?_
      refine go_getR (d_S_unit 39 rfl) fl_S_32 rfl rfl ?_
      show Go _ _ _ _ _ _ _ _ _ (.ref (ad (15)) :: []) _ _
      refine go_iload_n (d_S_unit 42 rfl) rfl rfl ?_
      obtain ⟨g_6, h⟩ := gd_some h
      obtain ⟨k_7, ek_7, h⟩ := ln_some h
      refine go_aald (c := 15) (d_S_unit 43 rfl) rfl (by decide) g_6 ?_
      rw [← ek_7]
      refine go_iload_n (d_S_unit 44 rfl) rfl rfl ?_
      obtain ⟨g_8, h⟩ := gd_some h
      obtain ⟨v_9, ev_9, h⟩ := ln_some h
      refine go_putI (x := x1) (d_S_unit 45 rfl) fp_S_159 (Nat.eq_of_beq_eq_true g_8) rfl rfl rfl ?_
      rw [← ev_9]
      refine go_iload_n (d_S_unit 48 rfl) rfl rfl ?_
      exact go_iret (d_S_unit 49 rfl) rfl rfl (Option.some.inj h) (by decide) (by decide)
    · refine go_icmp_lt (tgt := 23) (d_S_unit 10 rfl) (by decide) (fun q => absurd q (of_decide_eq_false c_4)) (fun _ => ?_)
      exact go_thr (text := "no room for one more unit") hl xs_80_84_4 (by decide +kernel) rfl rfl (d_S_unit 13 rfl) (d_S_unit 16 rfl) (d_S_unit 17 rfl) (d_S_unit 19 rfl) (d_S_unit 22 rfl) ⟨by decide, Nat.le_of_ble_eq_true rfl, by decide, by decide⟩ (Option.some.inj h) (by decide) (by decide)
  · exact go_cS (As := [.int x1]) (rest := []) (st2 := []) (c2 := 1) (s2 := 6) rfl rfl rfl rfl (Ca_S_refuseUnknownSkill hl o_2)  (d_S_unit 1 rfl) cw_S_43 w_261 ⟨by decide, by decide⟩ rfl (Nat.le_of_ble_eq_true rfl) ⟨by decide, by decide⟩ (fun q => absurd q z_3) (fun q => gx_out q rfl h (by decide) (by decide))
abbrev M_S_go : go_M := (c_S_go, 6, none, RS, [], rmD 1 5)
def f_S_go (x1 : Int32) (x2 : Int32) (x3 : Int32) (v : go_V) : Option go_R := bd (f_S_knownUnit x1 v) (fun r_1 => tr r_1 (bd (f_S_knownIncident x2 r_1.2.2.2) (fun r_4 => tr r_4 (bd (f_S_refuseOutside x3 (0 : Int32) (99999 : Int32) r_4.2.2.2) (fun r_7 => tr r_7 (gd (Nat.beq (go_cls (r_1.2.2.1)) 2) (br (decide ((r_7.2.2.2 (r_1.2.2.1) 1) = 0)) (bd (f_S_refuseClosed r_4.2.2.1 r_7.2.2.2) (fun r_12 => tr r_12 (ln (u2 r_12.2.2.2 (r_1.2.2.1) 1 (1 : Int32)) (fun v_15 => ln (u2 v_15 (r_1.2.2.1) 2 x2) (fun v_16 => ln (u2 v_16 (r_1.2.2.1) 3 x3) (fun v_17 => some (0, 0, 0, v_17))))))) (some (3, 0, 0, r_7.2.2.2)))))))))
set_option maxHeartbeats 4000000 in
set_option maxRecDepth 100000 in
theorem Ca_S_go {l : Launch} {G : go_G} {ad : Nat → Nat} (hl : l.stackTraces = false) {r : go_R} {x1 : Int32} {x2 : Int32} {x3 : Int32} {v : go_V} (h : f_S_go x1 x2 x3 v = some r) : Ca l G y_S_go (.code y_S_go c_S_go 6 none :: go_TT) (rmD 1 5) 0 ad [.ref (ad (0)), .int x1, .int x2, .int x3] v r := by
  unfold f_S_go at h
  refine go_body (own := RS) (by decide) rfl (Nat.le_of_ble_eq_true rfl) ?_
  show Go l G M_S_go go_Ex0 (go_E G ad 0 r 5 30) ad v [(0, .ref (ad (0))), (1, .int x1), (2, .int x2), (3, .int x3)] 0 [] 0 0
  refine go_aload_n (d_S_go 0 rfl) rfl rfl ?_
  refine go_iload_n (d_S_go 1 rfl) rfl rfl ?_
  obtain ⟨r_1, o_2, h⟩ := bd_some h
  rcases tr_some h with ⟨z_3, h⟩ | ⟨z_3, h⟩
  · refine go_cV (As := [.int x1]) (rest := []) (st2 := [.ref (ad (r_1.2.2.1))]) (c2 := 1) (s2 := 6) rfl rfl rfl rfl (Ca_S_knownUnit hl o_2)  (d_S_go 2 rfl) cw_S_162 ⟨w_488, w_17⟩ rfl (by decide) rfl ⟨by decide, by decide⟩ rfl (Nat.le_of_ble_eq_true rfl) ⟨by decide, by decide⟩ (fun _ => ?_) (fun q => absurd z_3 q)
    refine go_astore (lv' := [(0, .ref (ad (0))), (1, .int x1), (2, .int x2), (3, .int x3), (4, .ref (ad (r_1.2.2.1)))]) (d_S_go 5 rfl) (by decide) rfl ?_
    refine go_aload_n (d_S_go 7 rfl) rfl rfl ?_
    refine go_iload_n (d_S_go 8 rfl) rfl rfl ?_
    obtain ⟨r_4, o_5, h⟩ := bd_some h
    rcases tr_some h with ⟨z_6, h⟩ | ⟨z_6, h⟩
    · refine go_cV (As := [.int x2]) (rest := []) (st2 := [.ref (ad (r_4.2.2.1))]) (c2 := 2) (s2 := 12) rfl rfl rfl rfl (Ca_S_knownIncident hl o_5)  (d_S_go 9 rfl) cw_S_107 ⟨w_366, w_4⟩ rfl (by decide) rfl ⟨by decide, by decide⟩ rfl (Nat.le_of_ble_eq_true rfl) ⟨by decide, by decide⟩ (fun _ => ?_) (fun q => absurd z_6 q)
      refine go_astore (lv' := [(0, .ref (ad (0))), (1, .int x1), (2, .int x2), (3, .int x3), (4, .ref (ad (r_1.2.2.1))), (5, .ref (ad (r_4.2.2.1)))]) (d_S_go 12 rfl) (by decide) rfl ?_
      refine go_iload_n (d_S_go 14 rfl) rfl rfl ?_
      refine go_iconst (x := (0 : Int32)) (d_S_go 15 rfl) (by decide) ?_
      refine go_ldc (x := (99999 : Int32)) (d_S_go 16 rfl) w_491 ?_
      obtain ⟨r_7, o_8, h⟩ := bd_some h
      rcases tr_some h with ⟨z_9, h⟩ | ⟨z_9, h⟩
      · refine go_cS (As := [.int x3, .int ((0 : Int32)), .int ((99999 : Int32))]) (rest := []) (st2 := []) (c2 := 3) (s2 := 18) rfl rfl rfl rfl (Ca_S_refuseOutside hl o_8)  (d_S_go 18 rfl) cw_S_46 w_265 ⟨by decide, by decide⟩ rfl (Nat.le_of_ble_eq_true rfl) ⟨by decide, by decide⟩ (fun _ => ?_) (fun q => absurd z_9 q)
        refine go_aload (d_S_go 21 rfl) rfl ?_
        obtain ⟨g_10, h⟩ := gd_some h
        refine go_getI (d_S_go 23 rfl) fl_S_167 (Nat.eq_of_beq_eq_true g_10) rfl ?_
        rcases br_some h with ⟨c_11, h⟩ | ⟨c_11, h⟩
        · refine go_if_eq (tgt := 39) (d_S_go 26 rfl) (by decide) (fun _ => ?_) (fun q => absurd (of_decide_eq_true c_11) q)
          refine go_aload (d_S_go 39 rfl) rfl ?_
          obtain ⟨r_12, o_13, h⟩ := bd_some h
          rcases tr_some h with ⟨z_14, h⟩ | ⟨z_14, h⟩
          · refine go_cS (As := [.ref (ad (r_4.2.2.1))]) (rest := []) (st2 := []) (c2 := 4) (s2 := 24) rfl rfl rfl rfl (Ca_S_refuseClosed hl o_13)  (d_S_go 41 rfl) cw_S_111 w_370 ⟨by decide, by decide⟩ rfl (Nat.le_of_ble_eq_true rfl) ⟨by decide, by decide⟩ (fun _ => ?_) (fun q => absurd z_14 q)
            refine go_aload (d_S_go 44 rfl) rfl ?_
            refine go_iconst (x := (1 : Int32)) (d_S_go 46 rfl) (by decide) ?_
            obtain ⟨v_15, ev_15, h⟩ := ln_some h
            refine go_putI (x := (1 : Int32)) (d_S_go 47 rfl) fp_S_167 (Nat.eq_of_beq_eq_true g_10) rfl rfl rfl ?_
            rw [← ev_15]
            refine go_aload (d_S_go 50 rfl) rfl ?_
            refine go_iload_n (d_S_go 52 rfl) rfl rfl ?_
            obtain ⟨v_16, ev_16, h⟩ := ln_some h
            refine go_putI (x := x2) (d_S_go 53 rfl) fp_S_118 (Nat.eq_of_beq_eq_true g_10) rfl rfl rfl ?_
            rw [← ev_16]
            refine go_aload (d_S_go 56 rfl) rfl ?_
            refine go_iload_n (d_S_go 58 rfl) rfl rfl ?_
            obtain ⟨v_17, ev_17, h⟩ := ln_some h
            refine go_putI (x := x3) (d_S_go 59 rfl) fp_S_172 (Nat.eq_of_beq_eq_true g_10) rfl rfl rfl ?_
            rw [← ev_17]
            exact go_vret (d_S_go 62 rfl) rfl (Option.some.inj h) (by decide) (by decide)
          · exact go_cS (As := [.ref (ad (r_4.2.2.1))]) (rest := []) (st2 := []) (c2 := 4) (s2 := 24) rfl rfl rfl rfl (Ca_S_refuseClosed hl o_13)  (d_S_go 41 rfl) cw_S_111 w_370 ⟨by decide, by decide⟩ rfl (Nat.le_of_ble_eq_true rfl) ⟨by decide, by decide⟩ (fun q => absurd q z_14) (fun q => gx_out q rfl h (by decide) (by decide))
        · refine go_if_eq (tgt := 39) (d_S_go 26 rfl) (by decide) (fun q => absurd q (of_decide_eq_false c_11)) (fun _ => ?_)
          exact go_thr (text := "the unit is not free") hl xs_54_58_3 (by decide +kernel) rfl rfl (d_S_go 29 rfl) (d_S_go 32 rfl) (d_S_go 33 rfl) (d_S_go 35 rfl) (d_S_go 38 rfl) ⟨by decide, Nat.le_of_ble_eq_true rfl, by decide, by decide⟩ (Option.some.inj h) (by decide) (by decide)
      · exact go_cS (As := [.int x3, .int ((0 : Int32)), .int ((99999 : Int32))]) (rest := []) (st2 := []) (c2 := 3) (s2 := 18) rfl rfl rfl rfl (Ca_S_refuseOutside hl o_8)  (d_S_go 18 rfl) cw_S_46 w_265 ⟨by decide, by decide⟩ rfl (Nat.le_of_ble_eq_true rfl) ⟨by decide, by decide⟩ (fun q => absurd q z_9) (fun q => gx_out q rfl h (by decide) (by decide))
    · exact go_cV (As := [.int x2]) (rest := []) (st2 := [.ref (ad (r_4.2.2.1))]) (c2 := 2) (s2 := 12) rfl rfl rfl rfl (Ca_S_knownIncident hl o_5)  (d_S_go 9 rfl) cw_S_107 ⟨w_366, w_4⟩ rfl (by decide) rfl ⟨by decide, by decide⟩ rfl (Nat.le_of_ble_eq_true rfl) ⟨by decide, by decide⟩ (fun q => absurd q z_6) (fun q => gx_out q rfl h (by decide) (by decide))
  · exact go_cV (As := [.int x1]) (rest := []) (st2 := [.ref (ad (r_1.2.2.1))]) (c2 := 1) (s2 := 6) rfl rfl rfl rfl (Ca_S_knownUnit hl o_2)  (d_S_go 2 rfl) cw_S_162 ⟨w_488, w_17⟩ rfl (by decide) rfl ⟨by decide, by decide⟩ rfl (Nat.le_of_ble_eq_true rfl) ⟨by decide, by decide⟩ (fun q => absurd q z_3) (fun q => gx_out q rfl h (by decide) (by decide))
abbrev M_S_arrive : go_M := (c_S_arrive, 3, none, RS, [], rmD 1 2)
def f_S_arrive (x1 : Int32) (v : go_V) : Option go_R := bd (f_S_knownUnit x1 v) (fun r_1 => tr r_1 (gd (Nat.beq (go_cls (r_1.2.2.1)) 2) (br (decide ((r_1.2.2.2 (r_1.2.2.1) 1) = (1 : Int32))) (ln (u2 r_1.2.2.2 (r_1.2.2.1) 1 (2 : Int32)) (fun v_6 => some (0, 0, 0, v_6))) (some (3, 0, 0, r_1.2.2.2)))))
set_option maxHeartbeats 4000000 in
set_option maxRecDepth 100000 in
theorem Ca_S_arrive {l : Launch} {G : go_G} {ad : Nat → Nat} (hl : l.stackTraces = false) {r : go_R} {x1 : Int32} {v : go_V} (h : f_S_arrive x1 v = some r) : Ca l G y_S_arrive (.code y_S_arrive c_S_arrive 3 none :: go_TT) (rmD 1 2) 0 ad [.ref (ad (0)), .int x1] v r := by
  unfold f_S_arrive at h
  refine go_body (own := RS) (by decide) rfl (Nat.le_of_ble_eq_true rfl) ?_
  show Go l G M_S_arrive go_Ex0 (go_E G ad 0 r 2 12) ad v [(0, .ref (ad (0))), (1, .int x1)] 0 [] 0 0
  refine go_aload_n (d_S_arrive 0 rfl) rfl rfl ?_
  refine go_iload_n (d_S_arrive 1 rfl) rfl rfl ?_
  obtain ⟨r_1, o_2, h⟩ := bd_some h
  rcases tr_some h with ⟨z_3, h⟩ | ⟨z_3, h⟩
  · refine go_cV (As := [.int x1]) (rest := []) (st2 := [.ref (ad (r_1.2.2.1))]) (c2 := 1) (s2 := 6) rfl rfl rfl rfl (Ca_S_knownUnit hl o_2)  (d_S_arrive 2 rfl) cw_S_162 ⟨w_488, w_17⟩ rfl (by decide) rfl ⟨by decide, by decide⟩ rfl (Nat.le_of_ble_eq_true rfl) ⟨by decide, by decide⟩ (fun _ => ?_) (fun q => absurd z_3 q)
    refine go_astore_n (lv' := [(0, .ref (ad (0))), (1, .int x1), (2, .ref (ad (r_1.2.2.1)))]) (d_S_arrive 5 rfl) rfl (by decide) rfl ?_
    refine go_aload_n (d_S_arrive 6 rfl) rfl rfl ?_
    obtain ⟨g_4, h⟩ := gd_some h
    refine go_getI (d_S_arrive 7 rfl) fl_S_167 (Nat.eq_of_beq_eq_true g_4) rfl ?_
    refine go_iconst (x := (1 : Int32)) (d_S_arrive 10 rfl) (by decide) ?_
    rcases br_some h with ⟨c_5, h⟩ | ⟨c_5, h⟩
    · refine go_icmp_eq (tgt := 24) (d_S_arrive 11 rfl) (by decide) (fun _ => ?_) (fun q => absurd (of_decide_eq_true c_5) q)
      refine go_aload_n (d_S_arrive 24 rfl) rfl rfl ?_
      refine go_iconst (x := (2 : Int32)) (d_S_arrive 25 rfl) (by decide) ?_
      obtain ⟨v_6, ev_6, h⟩ := ln_some h
      refine go_putI (x := (2 : Int32)) (d_S_arrive 26 rfl) fp_S_167 (Nat.eq_of_beq_eq_true g_4) rfl rfl rfl ?_
      rw [← ev_6]
      exact go_vret (d_S_arrive 29 rfl) rfl (Option.some.inj h) (by decide) (by decide)
    · refine go_icmp_eq (tgt := 24) (d_S_arrive 11 rfl) (by decide) (fun q => absurd q (of_decide_eq_false c_5)) (fun _ => ?_)
      exact go_thr (text := "the unit is not under way") hl xs_54_58_3 (by decide +kernel) rfl rfl (d_S_arrive 14 rfl) (d_S_arrive 17 rfl) (d_S_arrive 18 rfl) (d_S_arrive 20 rfl) (d_S_arrive 23 rfl) ⟨by decide, Nat.le_of_ble_eq_true rfl, by decide, by decide⟩ (Option.some.inj h) (by decide) (by decide)
  · exact go_cV (As := [.int x1]) (rest := []) (st2 := [.ref (ad (r_1.2.2.1))]) (c2 := 1) (s2 := 6) rfl rfl rfl rfl (Ca_S_knownUnit hl o_2)  (d_S_arrive 2 rfl) cw_S_162 ⟨w_488, w_17⟩ rfl (by decide) rfl ⟨by decide, by decide⟩ rfl (Nat.le_of_ble_eq_true rfl) ⟨by decide, by decide⟩ (fun q => absurd q z_3) (fun q => gx_out q rfl h (by decide) (by decide))
abbrev M_S_needed : go_M := (c_S_needed, 4, (some .int), RS, [], rmD 2 3)
def f_S_needed (x1 : Int32) (x2 : Int32) (v : go_V) : Option go_R := bd (f_S_knownIncident x1 v) (fun r_1 => tr r_1 (bd (f_S_refuseUnknownSkill x2 r_1.2.2.2) (fun r_4 => tr r_4 (bd (f_S_refuseClosed r_1.2.2.1 r_4.2.2.2) (fun r_7 => tr r_7 (gd (Nat.beq (go_cls (r_1.2.2.1)) 0) (gd (go_in (r_7.2.2.2 (r_1.2.2.1) 1) 10) (ln (go_elt 1 (r_7.2.2.2 (r_1.2.2.1) 1).toNatClampNeg) (fun k_12 => gd (Nat.beq (go_cls (k_12)) 10) (gd (go_in x2 (go_len (k_12))) (bd (f_S_unitsFor x1 x2 r_7.2.2.2) (fun r_15 => nt r_15 (some (0, ((r_7.2.2.2 (k_12) x2.toNatClampNeg) - r_15.2.1), 0, r_15.2.2.2))))))))))))))
set_option maxHeartbeats 4000000 in
set_option maxRecDepth 100000 in
theorem Ca_S_needed {l : Launch} {G : go_G} {ad : Nat → Nat} (hl : l.stackTraces = false) {r : go_R} {x1 : Int32} {x2 : Int32} {v : go_V} (h : f_S_needed x1 x2 v = some r) : Ca l G y_S_needed (.code y_S_needed c_S_needed 4 (some .int) :: go_TT) (rmD 2 3) 1 ad [.ref (ad (0)), .int x1, .int x2] v r := by
  unfold f_S_needed at h
  refine go_body (own := RS) (by decide) rfl (Nat.le_of_ble_eq_true rfl) ?_
  show Go l G M_S_needed go_Ex0 (go_E G ad 1 r 3 18) ad v [(0, .ref (ad (0))), (1, .int x1), (2, .int x2)] 0 [] 0 0
  refine go_aload_n (d_S_needed 0 rfl) rfl rfl ?_
  refine go_iload_n (d_S_needed 1 rfl) rfl rfl ?_
  obtain ⟨r_1, o_2, h⟩ := bd_some h
  rcases tr_some h with ⟨z_3, h⟩ | ⟨z_3, h⟩
  · refine go_cV (As := [.int x1]) (rest := []) (st2 := [.ref (ad (r_1.2.2.1))]) (c2 := 1) (s2 := 6) rfl rfl rfl rfl (Ca_S_knownIncident hl o_2)  (d_S_needed 2 rfl) cw_S_107 ⟨w_366, w_4⟩ rfl (by decide) rfl ⟨by decide, by decide⟩ rfl (Nat.le_of_ble_eq_true rfl) ⟨by decide, by decide⟩ (fun _ => ?_) (fun q => absurd z_3 q)
    refine go_astore_n (lv' := [(0, .ref (ad (0))), (1, .int x1), (2, .int x2), (3, .ref (ad (r_1.2.2.1)))]) (d_S_needed 5 rfl) rfl (by decide) rfl ?_
    refine go_iload_n (d_S_needed 6 rfl) rfl rfl ?_
    obtain ⟨r_4, o_5, h⟩ := bd_some h
    rcases tr_some h with ⟨z_6, h⟩ | ⟨z_6, h⟩
    · refine go_cS (As := [.int x2]) (rest := []) (st2 := []) (c2 := 2) (s2 := 12) rfl rfl rfl rfl (Ca_S_refuseUnknownSkill hl o_5)  (d_S_needed 7 rfl) cw_S_43 w_261 ⟨by decide, by decide⟩ rfl (Nat.le_of_ble_eq_true rfl) ⟨by decide, by decide⟩ (fun _ => ?_) (fun q => absurd z_6 q)
      refine go_aload_n (d_S_needed 10 rfl) rfl rfl ?_
      obtain ⟨r_7, o_8, h⟩ := bd_some h
      rcases tr_some h with ⟨z_9, h⟩ | ⟨z_9, h⟩
      · refine go_cS (As := [.ref (ad (r_1.2.2.1))]) (rest := []) (st2 := []) (c2 := 3) (s2 := 18) rfl rfl rfl rfl (Ca_S_refuseClosed hl o_8)  (d_S_needed 11 rfl) cw_S_111 w_370 ⟨by decide, by decide⟩ rfl (Nat.le_of_ble_eq_true rfl) ⟨by decide, by decide⟩ (fun _ => ?_) (fun q => absurd z_9 q)
        refine go_aload_n (d_S_needed 14 rfl) rfl rfl ?_
        refine go_getR (d_S_needed 15 rfl) fl_S_11 rfl rfl ?_
        show Go _ _ _ _ _ _ _ _ _ (.ref (ad (1)) :: []) _ _
        refine go_aload_n (d_S_needed 18 rfl) rfl rfl ?_
        obtain ⟨g_10, h⟩ := gd_some h
        refine go_getI (d_S_needed 19 rfl) fl_S_142 (Nat.eq_of_beq_eq_true g_10) rfl ?_
        obtain ⟨g_11, h⟩ := gd_some h
        obtain ⟨k_12, ek_12, h⟩ := ln_some h
        refine go_aald (c := 16) (d_S_needed 22 rfl) rfl (by decide) g_11 ?_
        rw [← ek_12]
        refine go_iload_n (d_S_needed 23 rfl) rfl rfl ?_
        obtain ⟨g_13, h⟩ := gd_some h
        obtain ⟨g_14, h⟩ := gd_some h
        refine go_iald (d_S_needed 24 rfl) (Nat.eq_of_beq_eq_true g_13) g_14 ?_
        refine go_aload_n (d_S_needed 25 rfl) rfl rfl ?_
        refine go_iload_n (d_S_needed 26 rfl) rfl rfl ?_
        refine go_iload_n (d_S_needed 27 rfl) rfl rfl ?_
        obtain ⟨r_15, o_16, h⟩ := bd_some h
        obtain ⟨z_17, h⟩ := nt_some h
        refine go_cV (As := [.int x1, .int x2]) (rest := [.int ((r_7.2.2.2 (k_12) x2.toNatClampNeg))]) (st2 := [.int (r_15.2.1), .int ((r_7.2.2.2 (k_12) x2.toNatClampNeg))]) (c2 := 3) (s2 := 18) rfl rfl rfl rfl (Ca_S_unitsFor hl o_16)  (d_S_needed 28 rfl) cw_S_177 ⟨w_454, w_13⟩ rfl (by decide) rfl ⟨by decide, by decide⟩ rfl (Nat.le_of_ble_eq_true rfl) ⟨by decide, by decide⟩ (fun _ => ?_) (fun q => absurd z_17 q)
        refine go_isub (d_S_needed 31 rfl) ?_
        exact go_iret (d_S_needed 32 rfl) rfl rfl (Option.some.inj h) (by decide) (by decide)
      · exact go_cS (As := [.ref (ad (r_1.2.2.1))]) (rest := []) (st2 := []) (c2 := 3) (s2 := 18) rfl rfl rfl rfl (Ca_S_refuseClosed hl o_8)  (d_S_needed 11 rfl) cw_S_111 w_370 ⟨by decide, by decide⟩ rfl (Nat.le_of_ble_eq_true rfl) ⟨by decide, by decide⟩ (fun q => absurd q z_9) (fun q => gx_out q rfl h (by decide) (by decide))
    · exact go_cS (As := [.int x2]) (rest := []) (st2 := []) (c2 := 2) (s2 := 12) rfl rfl rfl rfl (Ca_S_refuseUnknownSkill hl o_5)  (d_S_needed 7 rfl) cw_S_43 w_261 ⟨by decide, by decide⟩ rfl (Nat.le_of_ble_eq_true rfl) ⟨by decide, by decide⟩ (fun q => absurd q z_6) (fun q => gx_out q rfl h (by decide) (by decide))
  · exact go_cV (As := [.int x1]) (rest := []) (st2 := [.ref (ad (r_1.2.2.1))]) (c2 := 1) (s2 := 6) rfl rfl rfl rfl (Ca_S_knownIncident hl o_2)  (d_S_needed 2 rfl) cw_S_107 ⟨w_366, w_4⟩ rfl (by decide) rfl ⟨by decide, by decide⟩ rfl (Nat.le_of_ble_eq_true rfl) ⟨by decide, by decide⟩ (fun q => absurd q z_3) (fun q => gx_out q rfl h (by decide) (by decide))
abbrev M_S_incident : go_M := (c_S_incident, 4, (some .int), RS, [], rmD 1 2)
def f_S_incident (x1 : Int32) (x2 : Int32) (v : go_V) : Option go_R := bd (f_S_knownIncident x1 v) (fun r_1 => tr r_1 (br (go_in x2 7) (br (Nat.beq x2.toNatClampNeg 0) (gd (Nat.beq (go_cls (r_1.2.2.1)) 0) (some (0, (r_1.2.2.2 (r_1.2.2.1) 1), 0, r_1.2.2.2))) (br (Nat.beq x2.toNatClampNeg 1) (gd (Nat.beq (go_cls (r_1.2.2.1)) 0) (br (decide ((r_1.2.2.2 (r_1.2.2.1) 0) = 0)) (some (0, (0 : Int32), 0, r_1.2.2.2)) (some (0, (1 : Int32), 0, r_1.2.2.2)))) (br (Nat.beq x2.toNatClampNeg 2) (gd (Nat.beq (go_cls (r_1.2.2.1)) 0) (some (0, (r_1.2.2.2 (r_1.2.2.1) 2), 0, r_1.2.2.2))) (br (Nat.beq x2.toNatClampNeg 3) (gd (Nat.beq (go_cls (r_1.2.2.1)) 0) (some (0, (r_1.2.2.2 (r_1.2.2.1) 3), 0, r_1.2.2.2))) (br (Nat.beq x2.toNatClampNeg 4) (gd (Nat.beq (go_cls (r_1.2.2.1)) 0) (some (0, (r_1.2.2.2 (r_1.2.2.1) 4), 0, r_1.2.2.2))) (br (Nat.beq x2.toNatClampNeg 5) (gd (Nat.beq (go_cls (r_1.2.2.1)) 0) (some (0, (r_1.2.2.2 (r_1.2.2.1) 5), 0, r_1.2.2.2))) (br (Nat.beq x2.toNatClampNeg 6) (gd (Nat.beq (go_cls (r_1.2.2.1)) 0) (some (0, (r_1.2.2.2 (r_1.2.2.1) 6), 0, r_1.2.2.2))) (none)))))))) (some (1, 0, 0, r_1.2.2.2))))
set_option maxHeartbeats 4000000 in
set_option maxRecDepth 100000 in
theorem Ca_S_incident {l : Launch} {G : go_G} {ad : Nat → Nat} (hl : l.stackTraces = false) {r : go_R} {x1 : Int32} {x2 : Int32} {v : go_V} (h : f_S_incident x1 x2 v = some r) : Ca l G y_S_incident (.code y_S_incident c_S_incident 4 (some .int) :: go_TT) (rmD 1 2) 1 ad [.ref (ad (0)), .int x1, .int x2] v r := by
  unfold f_S_incident at h
  refine go_body (own := RS) (by decide) rfl (Nat.le_of_ble_eq_true rfl) ?_
  show Go l G M_S_incident go_Ex0 (go_E G ad 1 r 2 12) ad v [(0, .ref (ad (0))), (1, .int x1), (2, .int x2)] 0 [] 0 0
  refine go_aload_n (d_S_incident 0 rfl) rfl rfl ?_
  refine go_iload_n (d_S_incident 1 rfl) rfl rfl ?_
  obtain ⟨r_1, o_2, h⟩ := bd_some h
  rcases tr_some h with ⟨z_3, h⟩ | ⟨z_3, h⟩
  · refine go_cV (As := [.int x1]) (rest := []) (st2 := [.ref (ad (r_1.2.2.1))]) (c2 := 1) (s2 := 6) rfl rfl rfl rfl (Ca_S_knownIncident hl o_2)  (d_S_incident 2 rfl) cw_S_107 ⟨w_366, w_4⟩ rfl (by decide) rfl ⟨by decide, by decide⟩ rfl (Nat.le_of_ble_eq_true rfl) ⟨by decide, by decide⟩ (fun _ => ?_) (fun q => absurd z_3 q)
    refine go_astore_n (lv' := [(0, .ref (ad (0))), (1, .int x1), (2, .int x2), (3, .ref (ad (r_1.2.2.1)))]) (d_S_incident 5 rfl) rfl (by decide) rfl ?_
    refine go_iload_n (d_S_incident 6 rfl) rfl rfl ?_
    rcases br_some h with ⟨c_4, h⟩ | ⟨c_4, h⟩
    · rcases br_some h with ⟨c_5, h⟩ | ⟨c_5, h⟩
      · refine go_tsw (tgt := 48) (n := 6) (d_S_incident 7 rfl) c_4 rfl c_5 rfl (by decide) ?_
        refine go_aload_n (d_S_incident 48 rfl) rfl rfl ?_
        obtain ⟨g_6, h⟩ := gd_some h
        refine go_getI (d_S_incident 49 rfl) fl_S_142 (Nat.eq_of_beq_eq_true g_6) rfl ?_
        exact go_iret (d_S_incident 52 rfl) rfl rfl (Option.some.inj h) (by decide) (by decide)
      rcases br_some h with ⟨c_7, h⟩ | ⟨c_7, h⟩
      · refine go_tsw (tgt := 53) (n := 6) (d_S_incident 7 rfl) c_4 rfl c_7 rfl (by decide) ?_
        refine go_aload_n (d_S_incident 53 rfl) rfl rfl ?_
        obtain ⟨g_8, h⟩ := gd_some h
        refine go_getI (d_S_incident 54 rfl) fl_S_97 (Nat.eq_of_beq_eq_true g_8) rfl ?_
        rcases br_some h with ⟨c_9, h⟩ | ⟨c_9, h⟩
        · refine go_if_eq (tgt := 64) (d_S_incident 57 rfl) (by decide) (fun _ => ?_) (fun q => absurd (of_decide_eq_true c_9) q)
          refine go_iconst (x := (0 : Int32)) (d_S_incident 64 rfl) (by decide) ?_
          exact go_iret (d_S_incident 65 rfl) rfl rfl (Option.some.inj h) (by decide) (by decide)
        · refine go_if_eq (tgt := 64) (d_S_incident 57 rfl) (by decide) (fun q => absurd q (of_decide_eq_false c_9)) (fun _ => ?_)
          refine go_iconst (x := (1 : Int32)) (d_S_incident 60 rfl) (by decide) ?_
          refine go_goto (tgt := 65) (d_S_incident 61 rfl) (by decide) ?_
          exact go_iret (d_S_incident 65 rfl) rfl rfl (Option.some.inj h) (by decide) (by decide)
      rcases br_some h with ⟨c_10, h⟩ | ⟨c_10, h⟩
      · refine go_tsw (tgt := 66) (n := 6) (d_S_incident 7 rfl) c_4 rfl c_10 rfl (by decide) ?_
        refine go_aload_n (d_S_incident 66 rfl) rfl rfl ?_
        obtain ⟨g_11, h⟩ := gd_some h
        refine go_getI (d_S_incident 67 rfl) fl_S_139 (Nat.eq_of_beq_eq_true g_11) rfl ?_
        exact go_iret (d_S_incident 70 rfl) rfl rfl (Option.some.inj h) (by decide) (by decide)
      rcases br_some h with ⟨c_12, h⟩ | ⟨c_12, h⟩
      · refine go_tsw (tgt := 71) (n := 6) (d_S_incident 7 rfl) c_4 rfl c_12 rfl (by decide) ?_
        refine go_aload_n (d_S_incident 71 rfl) rfl rfl ?_
        obtain ⟨g_13, h⟩ := gd_some h
        refine go_getI (d_S_incident 72 rfl) fl_S_104 (Nat.eq_of_beq_eq_true g_13) rfl ?_
        exact go_iret (d_S_incident 75 rfl) rfl rfl (Option.some.inj h) (by decide) (by decide)
      rcases br_some h with ⟨c_14, h⟩ | ⟨c_14, h⟩
      · refine go_tsw (tgt := 76) (n := 6) (d_S_incident 7 rfl) c_4 rfl c_14 rfl (by decide) ?_
        refine go_aload_n (d_S_incident 76 rfl) rfl rfl ?_
        obtain ⟨g_15, h⟩ := gd_some h
        refine go_getI (d_S_incident 77 rfl) fl_S_181 (Nat.eq_of_beq_eq_true g_15) rfl ?_
        exact go_iret (d_S_incident 80 rfl) rfl rfl (Option.some.inj h) (by decide) (by decide)
      rcases br_some h with ⟨c_16, h⟩ | ⟨c_16, h⟩
      · refine go_tsw (tgt := 81) (n := 6) (d_S_incident 7 rfl) c_4 rfl c_16 rfl (by decide) ?_
        refine go_aload_n (d_S_incident 81 rfl) rfl rfl ?_
        obtain ⟨g_17, h⟩ := gd_some h
        refine go_getI (d_S_incident 82 rfl) fl_S_184 (Nat.eq_of_beq_eq_true g_17) rfl ?_
        exact go_iret (d_S_incident 85 rfl) rfl rfl (Option.some.inj h) (by decide) (by decide)
      rcases br_some h with ⟨c_18, h⟩ | ⟨c_18, h⟩
      · refine go_tsw (tgt := 86) (n := 6) (d_S_incident 7 rfl) c_4 rfl c_18 rfl (by decide) ?_
        refine go_aload_n (d_S_incident 86 rfl) rfl rfl ?_
        obtain ⟨g_19, h⟩ := gd_some h
        refine go_getI (d_S_incident 87 rfl) fl_S_147 (Nat.eq_of_beq_eq_true g_19) rfl ?_
        exact go_iret (d_S_incident 90 rfl) rfl rfl (Option.some.inj h) (by decide) (by decide)
      cases h
    · refine go_tswO (tgt := 91) (n := 6) (d_S_incident 7 rfl) c_4 rfl (by decide) ?_
      exact go_thr (text := "no such thing is told of an incident") hl xs_65_69_1 (by decide +kernel) rfl rfl (d_S_incident 91 rfl) (d_S_incident 94 rfl) (d_S_incident 95 rfl) (d_S_incident 97 rfl) (d_S_incident 100 rfl) ⟨by decide, Nat.le_of_ble_eq_true rfl, by decide, by decide⟩ (Option.some.inj h) (by decide) (by decide)
  · exact go_cV (As := [.int x1]) (rest := []) (st2 := [.ref (ad (r_1.2.2.1))]) (c2 := 1) (s2 := 6) rfl rfl rfl rfl (Ca_S_knownIncident hl o_2)  (d_S_incident 2 rfl) cw_S_107 ⟨w_366, w_4⟩ rfl (by decide) rfl ⟨by decide, by decide⟩ rfl (Nat.le_of_ble_eq_true rfl) ⟨by decide, by decide⟩ (fun q => absurd q z_3) (fun q => gx_out q rfl h (by decide) (by decide))
abbrev M_S_unitAt : go_M := (c_S_unitAt, 4, (some .int), RS, [], rmD 1 2)
def f_S_unitAt (x1 : Int32) (x2 : Int32) (v : go_V) : Option go_R := bd (f_S_knownUnit x1 v) (fun r_1 => tr r_1 (br (go_in x2 3) (br (Nat.beq x2.toNatClampNeg 0) (gd (Nat.beq (go_cls (r_1.2.2.1)) 2) (some (0, (r_1.2.2.2 (r_1.2.2.1) 1), 0, r_1.2.2.2))) (br (Nat.beq x2.toNatClampNeg 1) (gd (Nat.beq (go_cls (r_1.2.2.1)) 2) (some (0, (r_1.2.2.2 (r_1.2.2.1) 2), 0, r_1.2.2.2))) (br (Nat.beq x2.toNatClampNeg 2) (gd (Nat.beq (go_cls (r_1.2.2.1)) 2) (some (0, (r_1.2.2.2 (r_1.2.2.1) 3), 0, r_1.2.2.2))) (none)))) (some (1, 0, 0, r_1.2.2.2))))
set_option maxHeartbeats 4000000 in
set_option maxRecDepth 100000 in
theorem Ca_S_unitAt {l : Launch} {G : go_G} {ad : Nat → Nat} (hl : l.stackTraces = false) {r : go_R} {x1 : Int32} {x2 : Int32} {v : go_V} (h : f_S_unitAt x1 x2 v = some r) : Ca l G y_S_unitAt (.code y_S_unitAt c_S_unitAt 4 (some .int) :: go_TT) (rmD 1 2) 1 ad [.ref (ad (0)), .int x1, .int x2] v r := by
  unfold f_S_unitAt at h
  refine go_body (own := RS) (by decide) rfl (Nat.le_of_ble_eq_true rfl) ?_
  show Go l G M_S_unitAt go_Ex0 (go_E G ad 1 r 2 12) ad v [(0, .ref (ad (0))), (1, .int x1), (2, .int x2)] 0 [] 0 0
  refine go_aload_n (d_S_unitAt 0 rfl) rfl rfl ?_
  refine go_iload_n (d_S_unitAt 1 rfl) rfl rfl ?_
  obtain ⟨r_1, o_2, h⟩ := bd_some h
  rcases tr_some h with ⟨z_3, h⟩ | ⟨z_3, h⟩
  · refine go_cV (As := [.int x1]) (rest := []) (st2 := [.ref (ad (r_1.2.2.1))]) (c2 := 1) (s2 := 6) rfl rfl rfl rfl (Ca_S_knownUnit hl o_2)  (d_S_unitAt 2 rfl) cw_S_162 ⟨w_488, w_17⟩ rfl (by decide) rfl ⟨by decide, by decide⟩ rfl (Nat.le_of_ble_eq_true rfl) ⟨by decide, by decide⟩ (fun _ => ?_) (fun q => absurd z_3 q)
    refine go_astore_n (lv' := [(0, .ref (ad (0))), (1, .int x1), (2, .int x2), (3, .ref (ad (r_1.2.2.1)))]) (d_S_unitAt 5 rfl) rfl (by decide) rfl ?_
    refine go_iload_n (d_S_unitAt 6 rfl) rfl rfl ?_
    rcases br_some h with ⟨c_4, h⟩ | ⟨c_4, h⟩
    · rcases br_some h with ⟨c_5, h⟩ | ⟨c_5, h⟩
      · refine go_tsw (tgt := 32) (n := 2) (d_S_unitAt 7 rfl) c_4 rfl c_5 rfl (by decide) ?_
        refine go_aload_n (d_S_unitAt 32 rfl) rfl rfl ?_
        obtain ⟨g_6, h⟩ := gd_some h
        refine go_getI (d_S_unitAt 33 rfl) fl_S_167 (Nat.eq_of_beq_eq_true g_6) rfl ?_
        exact go_iret (d_S_unitAt 36 rfl) rfl rfl (Option.some.inj h) (by decide) (by decide)
      rcases br_some h with ⟨c_7, h⟩ | ⟨c_7, h⟩
      · refine go_tsw (tgt := 37) (n := 2) (d_S_unitAt 7 rfl) c_4 rfl c_7 rfl (by decide) ?_
        refine go_aload_n (d_S_unitAt 37 rfl) rfl rfl ?_
        obtain ⟨g_8, h⟩ := gd_some h
        refine go_getI (d_S_unitAt 38 rfl) fl_S_118 (Nat.eq_of_beq_eq_true g_8) rfl ?_
        exact go_iret (d_S_unitAt 41 rfl) rfl rfl (Option.some.inj h) (by decide) (by decide)
      rcases br_some h with ⟨c_9, h⟩ | ⟨c_9, h⟩
      · refine go_tsw (tgt := 42) (n := 2) (d_S_unitAt 7 rfl) c_4 rfl c_9 rfl (by decide) ?_
        refine go_aload_n (d_S_unitAt 42 rfl) rfl rfl ?_
        obtain ⟨g_10, h⟩ := gd_some h
        refine go_getI (d_S_unitAt 43 rfl) fl_S_172 (Nat.eq_of_beq_eq_true g_10) rfl ?_
        exact go_iret (d_S_unitAt 46 rfl) rfl rfl (Option.some.inj h) (by decide) (by decide)
      cases h
    · refine go_tswO (tgt := 47) (n := 2) (d_S_unitAt 7 rfl) c_4 rfl (by decide) ?_
      exact go_thr (text := "no such thing is told of a unit") hl xs_65_69_1 (by decide +kernel) rfl rfl (d_S_unitAt 47 rfl) (d_S_unitAt 50 rfl) (d_S_unitAt 51 rfl) (d_S_unitAt 53 rfl) (d_S_unitAt 56 rfl) ⟨by decide, Nat.le_of_ble_eq_true rfl, by decide, by decide⟩ (Option.some.inj h) (by decide) (by decide)
  · exact go_cV (As := [.int x1]) (rest := []) (st2 := [.ref (ad (r_1.2.2.1))]) (c2 := 1) (s2 := 6) rfl rfl rfl rfl (Ca_S_knownUnit hl o_2)  (d_S_unitAt 2 rfl) cw_S_162 ⟨w_488, w_17⟩ rfl (by decide) rfl ⟨by decide, by decide⟩ rfl (Nat.le_of_ble_eq_true rfl) ⟨by decide, by decide⟩ (fun q => absurd q z_3) (fun q => gx_out q rfl h (by decide) (by decide))
abbrev M_S_acted : go_M := (c_S_acted, 2, (some .int), RS, [], rmD 0 1)
def f_S_acted_12  (x1 : Int32) (v : go_V) : Option go_R := some (1, 0, 0, v)
set_option maxHeartbeats 4000000 in
set_option maxRecDepth 100000 in
theorem b_S_acted_12 {l : Launch} {G : go_G} {ad : Nat → Nat} (hl : l.stackTraces = false) {r : go_R}  (x1 : Int32) (v : go_V) (h : f_S_acted_12  x1 v = some r) : Go l G M_S_acted go_Ex0 (go_E G ad 1 r 1 6) ad v [(0, .ref (ad (0))), (1, .int x1)] 12 [] 0 0 := by
  unfold f_S_acted_12 at h
  exact go_thr (text := "no such trigger") hl xs_65_69_1 (by decide +kernel) rfl rfl (d_S_acted 12 rfl) (d_S_acted 15 rfl) (d_S_acted 16 rfl) (d_S_acted 18 rfl) (d_S_acted 21 rfl) ⟨by decide, Nat.le_of_ble_eq_true rfl, by decide, by decide⟩ (Option.some.inj h) (by decide) (by decide)
def f_S_acted (x1 : Int32) (v : go_V) : Option go_R := br (decide (x1 < 0)) (f_S_acted_12  (x1) (v)) (br (decide (x1 < (v 0 4))) (gd (go_in x1 20) (ln (go_elt 12 x1.toNatClampNeg) (fun k_4 => gd (Nat.beq (go_cls (k_4)) 1) (some (0, (v (k_4) 4), 0, v))))) (f_S_acted_12  (x1) (v)))
set_option maxHeartbeats 4000000 in
set_option maxRecDepth 100000 in
theorem Ca_S_acted {l : Launch} {G : go_G} {ad : Nat → Nat} (hl : l.stackTraces = false) {r : go_R} {x1 : Int32} {v : go_V} (h : f_S_acted x1 v = some r) : Ca l G y_S_acted (.code y_S_acted c_S_acted 2 (some .int) :: go_TT) (rmD 0 1) 1 ad [.ref (ad (0)), .int x1] v r := by
  unfold f_S_acted at h
  refine go_body (own := RS) (by decide) rfl (Nat.le_of_ble_eq_true rfl) ?_
  show Go l G M_S_acted go_Ex0 (go_E G ad 1 r 1 6) ad v [(0, .ref (ad (0))), (1, .int x1)] 0 [] 0 0
  refine go_iload_n (d_S_acted 0 rfl) rfl rfl ?_
  rcases br_some h with ⟨c_1, h⟩ | ⟨c_1, h⟩
  · refine go_if_lt (tgt := 12) (d_S_acted 1 rfl) (by decide) (fun _ => ?_) (fun q => absurd (of_decide_eq_true c_1) q)
    exact b_S_acted_12 hl  (x1) (v) h
  · refine go_if_lt (tgt := 12) (d_S_acted 1 rfl) (by decide) (fun q => absurd q (of_decide_eq_false c_1)) (fun _ => ?_)
    refine go_iload_n (d_S_acted 4 rfl) rfl rfl ?_
    refine go_aload_n (d_S_acted 5 rfl) rfl rfl ?_
    refine go_getI (d_S_acted 6 rfl) fl_S_77 rfl rfl ?_
    rcases br_some h with ⟨c_2, h⟩ | ⟨c_2, h⟩
    · refine go_icmp_lt (tgt := 22) (d_S_acted 9 rfl) (by decide) (fun _ => ?_) (fun q => absurd (of_decide_eq_true c_2) q)
      refine go_aload_n (d_S_acted 22 rfl) rfl rfl ?_
      refine go_getR (d_S_acted 23 rfl) fl_S_16 rfl rfl ?_
      show Go _ _ _ _ _ _ _ _ _ (.ref (ad (12)) :: []) _ _
      refine go_iload_n (d_S_acted 26 rfl) rfl rfl ?_
      obtain ⟨g_3, h⟩ := gd_some h
      obtain ⟨k_4, ek_4, h⟩ := ln_some h
      refine go_aald (c := 13) (d_S_acted 27 rfl) rfl (by decide) g_3 ?_
      rw [← ek_4]
      obtain ⟨g_5, h⟩ := gd_some h
      refine go_getI (d_S_acted 28 rfl) fl_S_193 (Nat.eq_of_beq_eq_true g_5) rfl ?_
      exact go_iret (d_S_acted 31 rfl) rfl rfl (Option.some.inj h) (by decide) (by decide)
    · refine go_icmp_lt (tgt := 22) (d_S_acted 9 rfl) (by decide) (fun q => absurd q (of_decide_eq_false c_2)) (fun _ => ?_)
      exact b_S_acted_12 hl  (x1) (v) h
abbrev M_S_count : go_M := (c_S_count, 2, (some .int), RS, [], rmD 0 1)
def f_S_count (x1 : Int32) (v : go_V) : Option go_R := br (go_in x1 4) (br (Nat.beq x1.toNatClampNeg 0) (some (0, (v 0 2), 0, v)) (br (Nat.beq x1.toNatClampNeg 1) (some (0, (v 0 11), 0, v)) (br (Nat.beq x1.toNatClampNeg 2) (some (0, (v 0 12), 0, v)) (br (Nat.beq x1.toNatClampNeg 3) (some (0, (v 0 13), 0, v)) (none))))) (some (1, 0, 0, v))
set_option maxHeartbeats 4000000 in
set_option maxRecDepth 100000 in
theorem Ca_S_count {l : Launch} {G : go_G} {ad : Nat → Nat} (hl : l.stackTraces = false) {r : go_R} {x1 : Int32} {v : go_V} (h : f_S_count x1 v = some r) : Ca l G y_S_count (.code y_S_count c_S_count 2 (some .int) :: go_TT) (rmD 0 1) 1 ad [.ref (ad (0)), .int x1] v r := by
  unfold f_S_count at h
  refine go_body (own := RS) (by decide) rfl (Nat.le_of_ble_eq_true rfl) ?_
  show Go l G M_S_count go_Ex0 (go_E G ad 1 r 1 6) ad v [(0, .ref (ad (0))), (1, .int x1)] 0 [] 0 0
  refine go_iload_n (d_S_count 0 rfl) rfl rfl ?_
  rcases br_some h with ⟨c_1, h⟩ | ⟨c_1, h⟩
  · rcases br_some h with ⟨c_2, h⟩ | ⟨c_2, h⟩
    · refine go_tsw (tgt := 32) (n := 3) (d_S_count 1 rfl) c_1 rfl c_2 rfl (by decide) ?_
      refine go_aload_n (d_S_count 32 rfl) rfl rfl ?_
      refine go_getI (d_S_count 33 rfl) fl_S_101 rfl rfl ?_
      exact go_iret (d_S_count 36 rfl) rfl rfl (Option.some.inj h) (by decide) (by decide)
    rcases br_some h with ⟨c_3, h⟩ | ⟨c_3, h⟩
    · refine go_tsw (tgt := 37) (n := 3) (d_S_count 1 rfl) c_1 rfl c_3 rfl (by decide) ?_
      refine go_aload_n (d_S_count 37 rfl) rfl rfl ?_
      refine go_getI (d_S_count 38 rfl) fl_S_132 rfl rfl ?_
      exact go_iret (d_S_count 41 rfl) rfl rfl (Option.some.inj h) (by decide) (by decide)
    rcases br_some h with ⟨c_4, h⟩ | ⟨c_4, h⟩
    · refine go_tsw (tgt := 42) (n := 3) (d_S_count 1 rfl) c_1 rfl c_4 rfl (by decide) ?_
      refine go_aload_n (d_S_count 42 rfl) rfl rfl ?_
      refine go_getI (d_S_count 43 rfl) fl_S_154 rfl rfl ?_
      exact go_iret (d_S_count 46 rfl) rfl rfl (Option.some.inj h) (by decide) (by decide)
    rcases br_some h with ⟨c_5, h⟩ | ⟨c_5, h⟩
    · refine go_tsw (tgt := 47) (n := 3) (d_S_count 1 rfl) c_1 rfl c_5 rfl (by decide) ?_
      refine go_aload_n (d_S_count 47 rfl) rfl rfl ?_
      refine go_getI (d_S_count 48 rfl) fl_S_194 rfl rfl ?_
      exact go_iret (d_S_count 51 rfl) rfl rfl (Option.some.inj h) (by decide) (by decide)
    cases h
  · refine go_tswO (tgt := 52) (n := 3) (d_S_count 1 rfl) c_1 rfl (by decide) ?_
    exact go_thr (text := "no such thing is counted") hl xs_65_69_1 (by decide +kernel) rfl rfl (d_S_count 52 rfl) (d_S_count 55 rfl) (d_S_count 56 rfl) (d_S_count 58 rfl) (d_S_count 61 rfl) ⟨by decide, Nat.le_of_ble_eq_true rfl, by decide, by decide⟩ (Option.some.inj h) (by decide) (by decide)
end
section
/-! read back by wip/whole/dec.py: a function a method, and the rows that tie them -/
abbrev M_M_thrown : go_M := (c_M_thrown, 1, (some .int), RM, [], rmD 0 0)
def f_M_thrown  (v : go_V) : Option go_R := some (0, (v 100 0), 0, v)
set_option maxHeartbeats 4000000 in
set_option maxRecDepth 100000 in
theorem Ca_M_thrown {l : Launch} {G : go_G} {ad : Nat → Nat} (hl : l.stackTraces = false) {r : go_R}  {v : go_V} (h : f_M_thrown  v = some r) : Ca l G y_M_thrown (.code y_M_thrown c_M_thrown 1 (some .int) :: go_TT) (rmD 0 0) 1 ad [.ref (ad (100))] v r := by
  unfold f_M_thrown at h
  refine go_body (own := RM) (by decide) rfl (Nat.le_of_ble_eq_true rfl) ?_
  show Go l G M_M_thrown go_Ex0 (go_E G ad 1 r 0 0) ad v [(0, .ref (ad (100)))] 0 [] 0 0
  refine go_aload_n (d_M_thrown 0 rfl) rfl rfl ?_
  refine go_getI (d_M_thrown 1 rfl) fl_M_66 rfl rfl ?_
  exact go_iret (d_M_thrown 4 rfl) rfl rfl (Option.some.inj h) (by decide) (by decide)
abbrev M_M_throwing : go_M := (c_M_throwing, 4, (some .boolean), RM, [], rmD 0 0)
def f_M_throwing_26  (x1 : Int32) (x2 : Int32) (x3 : Int32) (y1 : Int32) (v : go_V) : Option go_R := ln (u2 v 100 0 y1) (fun v_1 => br (decide ((v_1 100 0) ≤ 0)) (some (0, (0 : Int32), 0, v_1)) (some (0, (1 : Int32), 0, v_1)))
set_option maxHeartbeats 4000000 in
set_option maxRecDepth 100000 in
theorem b_M_throwing_26 {l : Launch} {G : go_G} {ad : Nat → Nat} (hl : l.stackTraces = false) {r : go_R}  (x1 : Int32) (x2 : Int32) (x3 : Int32) (y1 : Int32) (v : go_V) (h : f_M_throwing_26  x1 x2 x3 y1 v = some r) : Go l G M_M_throwing go_Ex0 (go_E G ad 1 r 0 0) ad v [(0, .ref (ad (100))), (1, .int x1), (2, .int x2), (3, .int x3)] 26 [.int y1, .ref (ad (100))] 0 0 := by
  unfold f_M_throwing_26 at h
  obtain ⟨v_1, ev_1, h⟩ := ln_some h
  refine go_putI (x := y1) (d_M_throwing 26 rfl) fp_M_66 rfl rfl rfl rfl ?_
  rw [← ev_1]
  refine go_aload_n (d_M_throwing 29 rfl) rfl rfl ?_
  refine go_getI (d_M_throwing 30 rfl) fl_M_66 rfl rfl ?_
  rcases br_some h with ⟨c_2, h⟩ | ⟨c_2, h⟩
  · refine go_if_le (tgt := 40) (d_M_throwing 33 rfl) (by decide) (fun _ => ?_) (fun q => absurd (of_decide_eq_true c_2) q)
    refine go_iconst (x := (0 : Int32)) (d_M_throwing 40 rfl) (by decide) ?_
    exact go_iret (d_M_throwing 41 rfl) rfl (by decide) (Option.some.inj h) (by decide) (by decide)
  · refine go_if_le (tgt := 40) (d_M_throwing 33 rfl) (by decide) (fun q => absurd q (of_decide_eq_false c_2)) (fun _ => ?_)
    refine go_iconst (x := (1 : Int32)) (d_M_throwing 36 rfl) (by decide) ?_
    refine go_goto (tgt := 41) (d_M_throwing 37 rfl) (by decide) ?_
    exact go_iret (d_M_throwing 41 rfl) rfl (by decide) (Option.some.inj h) (by decide) (by decide)
def f_M_throwing (x1 : Int32) (x2 : Int32) (x3 : Int32) (v : go_V) : Option go_R := br (decide (x1 = 0)) (br (decide (x2 = 0)) (br (decide (x3 = 0)) (f_M_throwing_26  (x1) (x2) (x3) ((0 : Int32)) (v)) (f_M_throwing_26  (x1) (x2) (x3) ((3 : Int32)) (v))) (f_M_throwing_26  (x1) (x2) (x3) ((2 : Int32)) (v))) (f_M_throwing_26  (x1) (x2) (x3) ((1 : Int32)) (v))
set_option maxHeartbeats 4000000 in
set_option maxRecDepth 100000 in
theorem Ca_M_throwing {l : Launch} {G : go_G} {ad : Nat → Nat} (hl : l.stackTraces = false) {r : go_R} {x1 : Int32} {x2 : Int32} {x3 : Int32} {v : go_V} (h : f_M_throwing x1 x2 x3 v = some r) : Ca l G y_M_throwing (.code y_M_throwing c_M_throwing 4 (some .boolean) :: go_TT) (rmD 0 0) 1 ad [.ref (ad (100)), .int x1, .int x2, .int x3] v r := by
  unfold f_M_throwing at h
  refine go_body (own := RM) (by decide) rfl (Nat.le_of_ble_eq_true rfl) ?_
  show Go l G M_M_throwing go_Ex0 (go_E G ad 1 r 0 0) ad v [(0, .ref (ad (100))), (1, .int x1), (2, .int x2), (3, .int x3)] 0 [] 0 0
  refine go_aload_n (d_M_throwing 0 rfl) rfl rfl ?_
  refine go_iload_n (d_M_throwing 1 rfl) rfl rfl ?_
  rcases br_some h with ⟨c_1, h⟩ | ⟨c_1, h⟩
  · refine go_if_eq (tgt := 9) (d_M_throwing 2 rfl) (by decide) (fun _ => ?_) (fun q => absurd (of_decide_eq_true c_1) q)
    refine go_iload_n (d_M_throwing 9 rfl) rfl rfl ?_
    rcases br_some h with ⟨c_2, h⟩ | ⟨c_2, h⟩
    · refine go_if_eq (tgt := 17) (d_M_throwing 10 rfl) (by decide) (fun _ => ?_) (fun q => absurd (of_decide_eq_true c_2) q)
      refine go_iload_n (d_M_throwing 17 rfl) rfl rfl ?_
      rcases br_some h with ⟨c_3, h⟩ | ⟨c_3, h⟩
      · refine go_if_eq (tgt := 25) (d_M_throwing 18 rfl) (by decide) (fun _ => ?_) (fun q => absurd (of_decide_eq_true c_3) q)
        refine go_iconst (x := (0 : Int32)) (d_M_throwing 25 rfl) (by decide) ?_
        exact b_M_throwing_26 hl  (x1) (x2) (x3) ((0 : Int32)) (v) h
      · refine go_if_eq (tgt := 25) (d_M_throwing 18 rfl) (by decide) (fun q => absurd q (of_decide_eq_false c_3)) (fun _ => ?_)
        refine go_iconst (x := (3 : Int32)) (d_M_throwing 21 rfl) (by decide) ?_
        refine go_goto (tgt := 26) (d_M_throwing 22 rfl) (by decide) ?_
        exact b_M_throwing_26 hl  (x1) (x2) (x3) ((3 : Int32)) (v) h
    · refine go_if_eq (tgt := 17) (d_M_throwing 10 rfl) (by decide) (fun q => absurd q (of_decide_eq_false c_2)) (fun _ => ?_)
      refine go_iconst (x := (2 : Int32)) (d_M_throwing 13 rfl) (by decide) ?_
      refine go_goto (tgt := 26) (d_M_throwing 14 rfl) (by decide) ?_
      exact b_M_throwing_26 hl  (x1) (x2) (x3) ((2 : Int32)) (v) h
  · refine go_if_eq (tgt := 9) (d_M_throwing 2 rfl) (by decide) (fun q => absurd q (of_decide_eq_false c_1)) (fun _ => ?_)
    refine go_iconst (x := (1 : Int32)) (d_M_throwing 5 rfl) (by decide) ?_
    refine go_goto (tgt := 26) (d_M_throwing 6 rfl) (by decide) ?_
    exact b_M_throwing_26 hl  (x1) (x2) (x3) ((1 : Int32)) (v) h
abbrev M_M_in : go_M := (c_M_in, 3, (some .boolean), RM, [], rmD 0 0)
def f_M_in_14  (x0 : Int32) (x1 : Int32) (x2 : Int32) (v : go_V) : Option go_R := some (0, (0 : Int32), 0, v)
set_option maxHeartbeats 4000000 in
set_option maxRecDepth 100000 in
theorem b_M_in_14 {l : Launch} {G : go_G} {ad : Nat → Nat} (hl : l.stackTraces = false) {r : go_R}  (x0 : Int32) (x1 : Int32) (x2 : Int32) (v : go_V) (h : f_M_in_14  x0 x1 x2 v = some r) : Go l G M_M_in go_Ex0 (go_E G ad 1 r 0 0) ad v [(0, .int x0), (1, .int x1), (2, .int x2)] 14 [] 0 0 := by
  unfold f_M_in_14 at h
  refine go_iconst (x := (0 : Int32)) (d_M_in 14 rfl) (by decide) ?_
  exact go_iret (d_M_in 15 rfl) rfl (by decide) (Option.some.inj h) (by decide) (by decide)
def f_M_in (x0 : Int32) (x1 : Int32) (x2 : Int32) (v : go_V) : Option go_R := br (decide (x0 < x1)) (f_M_in_14  (x0) (x1) (x2) (v)) (br (decide (x2 < x0)) (f_M_in_14  (x0) (x1) (x2) (v)) (some (0, (1 : Int32), 0, v)))
set_option maxHeartbeats 4000000 in
set_option maxRecDepth 100000 in
theorem Ca_M_in {l : Launch} {G : go_G} {ad : Nat → Nat} (hl : l.stackTraces = false) {r : go_R} {x0 : Int32} {x1 : Int32} {x2 : Int32} {v : go_V} (h : f_M_in x0 x1 x2 v = some r) : Ca l G y_M_in (.code y_M_in c_M_in 3 (some .boolean) :: go_TT) (rmD 0 0) 1 ad [.int x0, .int x1, .int x2] v r := by
  unfold f_M_in at h
  refine go_body (own := RM) (by decide) rfl (Nat.le_of_ble_eq_true rfl) ?_
  show Go l G M_M_in go_Ex0 (go_E G ad 1 r 0 0) ad v [(0, .int x0), (1, .int x1), (2, .int x2)] 0 [] 0 0
  refine go_iload_n (d_M_in 0 rfl) rfl rfl ?_
  refine go_iload_n (d_M_in 1 rfl) rfl rfl ?_
  rcases br_some h with ⟨c_1, h⟩ | ⟨c_1, h⟩
  · refine go_icmp_lt (tgt := 14) (d_M_in 2 rfl) (by decide) (fun _ => ?_) (fun q => absurd (of_decide_eq_true c_1) q)
    exact b_M_in_14 hl  (x0) (x1) (x2) (v) h
  · refine go_icmp_lt (tgt := 14) (d_M_in 2 rfl) (by decide) (fun q => absurd q (of_decide_eq_false c_1)) (fun _ => ?_)
    refine go_iload_n (d_M_in 5 rfl) rfl rfl ?_
    refine go_iload_n (d_M_in 6 rfl) rfl rfl ?_
    rcases br_some h with ⟨c_2, h⟩ | ⟨c_2, h⟩
    · refine go_icmp_gt (tgt := 14) (d_M_in 7 rfl) (by decide) (fun _ => ?_) (fun q => absurd (of_decide_eq_true c_2) q)
      exact b_M_in_14 hl  (x0) (x1) (x2) (v) h
    · refine go_icmp_gt (tgt := 14) (d_M_in 7 rfl) (by decide) (fun q => absurd q (of_decide_eq_false c_2)) (fun _ => ?_)
      refine go_iconst (x := (1 : Int32)) (d_M_in 10 rfl) (by decide) ?_
      refine go_goto (tgt := 15) (d_M_in 11 rfl) (by decide) ?_
      exact go_iret (d_M_in 15 rfl) rfl (by decide) (Option.some.inj h) (by decide) (by decide)
abbrev M_M_isIncident : go_M := (c_M_isIncident, 2, (some .boolean), RM, [], rmD 1 0)
def f_M_isIncident (x1 : Int32) (v : go_V) : Option go_R := bd (f_M_in x1 (0 : Int32) ((v 100 10) - (1 : Int32)) v) (fun r_1 => nt r_1 (gd (decide (r_1.2.1 &&& 1 = r_1.2.1)) (some (0, r_1.2.1, 0, r_1.2.2.2))))
set_option maxHeartbeats 4000000 in
set_option maxRecDepth 100000 in
theorem Ca_M_isIncident {l : Launch} {G : go_G} {ad : Nat → Nat} (hl : l.stackTraces = false) {r : go_R} {x1 : Int32} {v : go_V} (h : f_M_isIncident x1 v = some r) : Ca l G y_M_isIncident (.code y_M_isIncident c_M_isIncident 2 (some .boolean) :: go_TT) (rmD 1 0) 1 ad [.ref (ad (100)), .int x1] v r := by
  unfold f_M_isIncident at h
  refine go_body (own := RM) (by decide) rfl (Nat.le_of_ble_eq_true rfl) ?_
  show Go l G M_M_isIncident go_Ex0 (go_E G ad 1 r 0 0) ad v [(0, .ref (ad (100))), (1, .int x1)] 0 [] 0 0
  refine go_iload_n (d_M_isIncident 0 rfl) rfl rfl ?_
  refine go_iconst (x := (0 : Int32)) (d_M_isIncident 1 rfl) (by decide) ?_
  refine go_aload_n (d_M_isIncident 2 rfl) rfl rfl ?_
  refine go_getI (d_M_isIncident 3 rfl) fl_M_70 rfl rfl ?_
  refine go_iconst (x := (1 : Int32)) (d_M_isIncident 6 rfl) (by decide) ?_
  refine go_isub (d_M_isIncident 7 rfl) ?_
  obtain ⟨r_1, o_2, h⟩ := bd_some h
  obtain ⟨z_3, h⟩ := nt_some h
  refine go_cS (As := [.int x1, .int ((0 : Int32)), .int (((v 100 10) - (1 : Int32)))]) (rest := []) (st2 := [.int (r_1.2.1)]) (c2 := 0) (s2 := 0) rfl rfl rfl rfl (Ca_M_in hl o_2)  (d_M_isIncident 8 rfl) cw_M_73 w_639 ⟨by decide, by decide⟩ rfl (Nat.le_of_ble_eq_true rfl) ⟨by decide, by decide⟩ (fun _ => ?_) (fun q => absurd z_3 q)
  obtain ⟨g_4, h⟩ := gd_some h
  exact go_iret (d_M_isIncident 11 rfl) rfl (go_nb g_4) (Option.some.inj h) (by decide) (by decide)
abbrev M_M_isClosed : go_M := (c_M_isClosed, 2, (some .boolean), RM, [], rmD 2 0)
def f_M_isClosed_21  (x1 : Int32) (v : go_V) : Option go_R := some (0, (0 : Int32), 0, v)
set_option maxHeartbeats 4000000 in
set_option maxRecDepth 100000 in
theorem b_M_isClosed_21 {l : Launch} {G : go_G} {ad : Nat → Nat} (hl : l.stackTraces = false) {r : go_R}  (x1 : Int32) (v : go_V) (h : f_M_isClosed_21  x1 v = some r) : Go l G M_M_isClosed go_Ex0 (go_E G ad 1 r 0 0) ad v [(0, .ref (ad (100))), (1, .int x1)] 21 [] 0 0 := by
  unfold f_M_isClosed_21 at h
  refine go_iconst (x := (0 : Int32)) (d_M_isClosed 21 rfl) (by decide) ?_
  exact go_iret (d_M_isClosed 22 rfl) rfl (by decide) (Option.some.inj h) (by decide) (by decide)
def f_M_isClosed (x1 : Int32) (v : go_V) : Option go_R := bd (f_M_isIncident x1 v) (fun r_1 => nt r_1 (br (decide (r_1.2.1 = 0)) (f_M_isClosed_21  (x1) (r_1.2.2.2)) (gd (go_in x1 12) (br (decide ((r_1.2.2.2 107 x1.toNatClampNeg) = 0)) (some (0, (1 : Int32), 0, r_1.2.2.2)) (f_M_isClosed_21  (x1) (r_1.2.2.2))))))
set_option maxHeartbeats 4000000 in
set_option maxRecDepth 100000 in
theorem Ca_M_isClosed {l : Launch} {G : go_G} {ad : Nat → Nat} (hl : l.stackTraces = false) {r : go_R} {x1 : Int32} {v : go_V} (h : f_M_isClosed x1 v = some r) : Ca l G y_M_isClosed (.code y_M_isClosed c_M_isClosed 2 (some .boolean) :: go_TT) (rmD 2 0) 1 ad [.ref (ad (100)), .int x1] v r := by
  unfold f_M_isClosed at h
  refine go_body (own := RM) (by decide) rfl (Nat.le_of_ble_eq_true rfl) ?_
  show Go l G M_M_isClosed go_Ex0 (go_E G ad 1 r 0 0) ad v [(0, .ref (ad (100))), (1, .int x1)] 0 [] 0 0
  refine go_aload_n (d_M_isClosed 0 rfl) rfl rfl ?_
  refine go_iload_n (d_M_isClosed 1 rfl) rfl rfl ?_
  obtain ⟨r_1, o_2, h⟩ := bd_some h
  obtain ⟨z_3, h⟩ := nt_some h
  refine go_cV (As := [.int x1]) (rest := []) (st2 := [.int (r_1.2.1)]) (c2 := 0) (s2 := 0) rfl rfl rfl rfl (Ca_M_isIncident hl o_2)  (d_M_isClosed 2 rfl) cw_M_77 ⟨w_664, w_19⟩ rfl (by decide) rfl ⟨by decide, by decide⟩ rfl (Nat.le_of_ble_eq_true rfl) ⟨by decide, by decide⟩ (fun _ => ?_) (fun q => absurd z_3 q)
  rcases br_some h with ⟨c_4, h⟩ | ⟨c_4, h⟩
  · refine go_if_eq (tgt := 21) (d_M_isClosed 5 rfl) (by decide) (fun _ => ?_) (fun q => absurd (of_decide_eq_true c_4) q)
    exact b_M_isClosed_21 hl  (x1) (r_1.2.2.2) h
  · refine go_if_eq (tgt := 21) (d_M_isClosed 5 rfl) (by decide) (fun q => absurd q (of_decide_eq_false c_4)) (fun _ => ?_)
    refine go_aload_n (d_M_isClosed 8 rfl) rfl rfl ?_
    refine go_getR (d_M_isClosed 9 rfl) fl_M_28 rfl rfl ?_
    show Go _ _ _ _ _ _ _ _ _ (.ref (ad (107)) :: []) _ _
    refine go_iload_n (d_M_isClosed 12 rfl) rfl rfl ?_
    obtain ⟨g_5, h⟩ := gd_some h
    refine go_zald (d_M_isClosed 13 rfl) rfl g_5 ?_
    rcases br_some h with ⟨c_6, h⟩ | ⟨c_6, h⟩
    · refine go_if_ne (tgt := 21) (d_M_isClosed 14 rfl) (by decide) (fun q => absurd (of_decide_eq_true c_6) q) (fun _ => ?_)
      refine go_iconst (x := (1 : Int32)) (d_M_isClosed 17 rfl) (by decide) ?_
      refine go_goto (tgt := 22) (d_M_isClosed 18 rfl) (by decide) ?_
      exact go_iret (d_M_isClosed 22 rfl) rfl (by decide) (Option.some.inj h) (by decide) (by decide)
    · refine go_if_ne (tgt := 21) (d_M_isClosed 14 rfl) (by decide) (fun _ => ?_) (fun q => absurd q (of_decide_eq_false c_6))
      exact b_M_isClosed_21 hl  (x1) (r_1.2.2.2) h
abbrev M_M_isUnit : go_M := (c_M_isUnit, 2, (some .boolean), RM, [], rmD 1 0)
def f_M_isUnit (x1 : Int32) (v : go_V) : Option go_R := bd (f_M_in x1 (0 : Int32) ((v 100 19) - (1 : Int32)) v) (fun r_1 => nt r_1 (gd (decide (r_1.2.1 &&& 1 = r_1.2.1)) (some (0, r_1.2.1, 0, r_1.2.2.2))))
set_option maxHeartbeats 4000000 in
set_option maxRecDepth 100000 in
theorem Ca_M_isUnit {l : Launch} {G : go_G} {ad : Nat → Nat} (hl : l.stackTraces = false) {r : go_R} {x1 : Int32} {v : go_V} (h : f_M_isUnit x1 v = some r) : Ca l G y_M_isUnit (.code y_M_isUnit c_M_isUnit 2 (some .boolean) :: go_TT) (rmD 1 0) 1 ad [.ref (ad (100)), .int x1] v r := by
  unfold f_M_isUnit at h
  refine go_body (own := RM) (by decide) rfl (Nat.le_of_ble_eq_true rfl) ?_
  show Go l G M_M_isUnit go_Ex0 (go_E G ad 1 r 0 0) ad v [(0, .ref (ad (100))), (1, .int x1)] 0 [] 0 0
  refine go_iload_n (d_M_isUnit 0 rfl) rfl rfl ?_
  refine go_iconst (x := (0 : Int32)) (d_M_isUnit 1 rfl) (by decide) ?_
  refine go_aload_n (d_M_isUnit 2 rfl) rfl rfl ?_
  refine go_getI (d_M_isUnit 3 rfl) fl_M_81 rfl rfl ?_
  refine go_iconst (x := (1 : Int32)) (d_M_isUnit 6 rfl) (by decide) ?_
  refine go_isub (d_M_isUnit 7 rfl) ?_
  obtain ⟨r_1, o_2, h⟩ := bd_some h
  obtain ⟨z_3, h⟩ := nt_some h
  refine go_cS (As := [.int x1, .int ((0 : Int32)), .int (((v 100 19) - (1 : Int32)))]) (rest := []) (st2 := [.int (r_1.2.1)]) (c2 := 0) (s2 := 0) rfl rfl rfl rfl (Ca_M_in hl o_2)  (d_M_isUnit 8 rfl) cw_M_73 w_639 ⟨by decide, by decide⟩ rfl (Nat.le_of_ble_eq_true rfl) ⟨by decide, by decide⟩ (fun _ => ?_) (fun q => absurd z_3 q)
  obtain ⟨g_4, h⟩ := gd_some h
  exact go_iret (d_M_isUnit 11 rfl) rfl (go_nb g_4) (Option.some.inj h) (by decide) (by decide)
abbrev M_M_row : go_M := (c_M_row, 4, none, RM, [], rmD 1 0)
def f_M_row_41  (x1 : Int32) (x2 : Int32) (x3 : Int32) (y1 : Int32) (y2 : Int32) (v : go_V) : Option go_R := bd (f_M_throwing y1 y2 (0 : Int32) v) (fun r_1 => nt r_1 (br (decide (r_1.2.1 = 0)) (gd (go_in (((8 : Int32) * x1) + x2) 80) (ln (u2 r_1.2.2.2 101 (((8 : Int32) * x1) + x2).toNatClampNeg x3) (fun v_6 => some (0, 0, 0, v_6)))) (some (0, 0, 0, r_1.2.2.2))))
set_option maxHeartbeats 4000000 in
set_option maxRecDepth 100000 in
theorem b_M_row_41 {l : Launch} {G : go_G} {ad : Nat → Nat} (hl : l.stackTraces = false) {r : go_R}  (x1 : Int32) (x2 : Int32) (x3 : Int32) (y1 : Int32) (y2 : Int32) (v : go_V) (h : f_M_row_41  x1 x2 x3 y1 y2 v = some r) : Go l G M_M_row go_Ex0 (go_E G ad 0 r 0 0) ad v [(0, .ref (ad (100))), (1, .int x1), (2, .int x2), (3, .int x3)] 41 [.int y2, .int y1, .ref (ad (100))] 0 0 := by
  unfold f_M_row_41 at h
  refine go_iconst (x := (0 : Int32)) (d_M_row 41 rfl) (by decide) ?_
  obtain ⟨r_1, o_2, h⟩ := bd_some h
  obtain ⟨z_3, h⟩ := nt_some h
  refine go_cV (As := [.int y1, .int y2, .int ((0 : Int32))]) (rest := []) (st2 := [.int (r_1.2.1)]) (c2 := 0) (s2 := 0) rfl rfl rfl rfl (Ca_M_throwing hl o_2)  (d_M_row 42 rfl) cw_M_84 ⟨w_643, w_18⟩ rfl (by decide) rfl ⟨by decide, by decide⟩ rfl (Nat.le_of_ble_eq_true rfl) ⟨by decide, by decide⟩ (fun _ => ?_) (fun q => absurd z_3 q)
  rcases br_some h with ⟨c_4, h⟩ | ⟨c_4, h⟩
  · refine go_if_eq (tgt := 49) (d_M_row 45 rfl) (by decide) (fun _ => ?_) (fun q => absurd (of_decide_eq_true c_4) q)
    refine go_aload_n (d_M_row 49 rfl) rfl rfl ?_
    refine go_getR (d_M_row 50 rfl) fl_M_7 rfl rfl ?_
    show Go _ _ _ _ _ _ _ _ _ (.ref (ad (101)) :: []) _ _
    refine go_bipush (x := (8 : Int32)) (d_M_row 53 rfl) (by decide) ?_
    refine go_iload_n (d_M_row 55 rfl) rfl rfl ?_
    refine go_imul (d_M_row 56 rfl) ?_
    refine go_iload_n (d_M_row 57 rfl) rfl rfl ?_
    refine go_iadd (d_M_row 58 rfl) ?_
    refine go_iload_n (d_M_row 59 rfl) rfl rfl ?_
    obtain ⟨g_5, h⟩ := gd_some h
    obtain ⟨v_6, ev_6, h⟩ := ln_some h
    refine go_iast (y := x3) (d_M_row 60 rfl) rfl g_5 ?_
    rw [← ev_6]
    exact go_vret (d_M_row 61 rfl) rfl (Option.some.inj h) (by decide) (by decide)
  · refine go_if_eq (tgt := 49) (d_M_row 45 rfl) (by decide) (fun q => absurd q (of_decide_eq_false c_4)) (fun _ => ?_)
    exact go_vret (d_M_row 48 rfl) rfl (Option.some.inj h) (by decide) (by decide)
def f_M_row_26  (x1 : Int32) (x2 : Int32) (x3 : Int32) (y1 : Int32) (v : go_V) : Option go_R := bd (f_M_in x3 (0 : Int32) (30 : Int32) v) (fun r_1 => nt r_1 (br (decide (r_1.2.1 = 0)) (f_M_row_41  (x1) (x2) (x3) (y1) ((1 : Int32)) (r_1.2.2.2)) (f_M_row_41  (x1) (x2) (x3) (y1) ((0 : Int32)) (r_1.2.2.2))))
set_option maxHeartbeats 4000000 in
set_option maxRecDepth 100000 in
theorem b_M_row_26 {l : Launch} {G : go_G} {ad : Nat → Nat} (hl : l.stackTraces = false) {r : go_R}  (x1 : Int32) (x2 : Int32) (x3 : Int32) (y1 : Int32) (v : go_V) (h : f_M_row_26  x1 x2 x3 y1 v = some r) : Go l G M_M_row go_Ex0 (go_E G ad 0 r 0 0) ad v [(0, .ref (ad (100))), (1, .int x1), (2, .int x2), (3, .int x3)] 26 [.int y1, .ref (ad (100))] 0 0 := by
  unfold f_M_row_26 at h
  refine go_iload_n (d_M_row 26 rfl) rfl rfl ?_
  refine go_iconst (x := (0 : Int32)) (d_M_row 27 rfl) (by decide) ?_
  refine go_bipush (x := (30 : Int32)) (d_M_row 28 rfl) (by decide) ?_
  obtain ⟨r_1, o_2, h⟩ := bd_some h
  obtain ⟨z_3, h⟩ := nt_some h
  refine go_cS (As := [.int x3, .int ((0 : Int32)), .int ((30 : Int32))]) (rest := [.int y1, .ref (ad (100))]) (st2 := [.int (r_1.2.1), .int y1, .ref (ad (100))]) (c2 := 0) (s2 := 0) rfl rfl rfl rfl (Ca_M_in hl o_2)  (d_M_row 30 rfl) cw_M_73 w_639 ⟨by decide, by decide⟩ rfl (Nat.le_of_ble_eq_true rfl) ⟨by decide, by decide⟩ (fun _ => ?_) (fun q => absurd z_3 q)
  rcases br_some h with ⟨c_4, h⟩ | ⟨c_4, h⟩
  · refine go_if_ne (tgt := 40) (d_M_row 33 rfl) (by decide) (fun q => absurd (of_decide_eq_true c_4) q) (fun _ => ?_)
    refine go_iconst (x := (1 : Int32)) (d_M_row 36 rfl) (by decide) ?_
    refine go_goto (tgt := 41) (d_M_row 37 rfl) (by decide) ?_
    exact b_M_row_41 hl  (x1) (x2) (x3) (y1) ((1 : Int32)) (r_1.2.2.2) h
  · refine go_if_ne (tgt := 40) (d_M_row 33 rfl) (by decide) (fun _ => ?_) (fun q => absurd q (of_decide_eq_false c_4))
    refine go_iconst (x := (0 : Int32)) (d_M_row 40 rfl) (by decide) ?_
    exact b_M_row_41 hl  (x1) (x2) (x3) (y1) ((0 : Int32)) (r_1.2.2.2) h
def f_M_row_21  (x1 : Int32) (x2 : Int32) (x3 : Int32) (v : go_V) : Option go_R := f_M_row_26  (x1) (x2) (x3) ((1 : Int32)) (v)
set_option maxHeartbeats 4000000 in
set_option maxRecDepth 100000 in
theorem b_M_row_21 {l : Launch} {G : go_G} {ad : Nat → Nat} (hl : l.stackTraces = false) {r : go_R}  (x1 : Int32) (x2 : Int32) (x3 : Int32) (v : go_V) (h : f_M_row_21  x1 x2 x3 v = some r) : Go l G M_M_row go_Ex0 (go_E G ad 0 r 0 0) ad v [(0, .ref (ad (100))), (1, .int x1), (2, .int x2), (3, .int x3)] 21 [.ref (ad (100))] 0 0 := by
  unfold f_M_row_21 at h
  refine go_iconst (x := (1 : Int32)) (d_M_row 21 rfl) (by decide) ?_
  refine go_goto (tgt := 26) (d_M_row 22 rfl) (by decide) ?_
  exact b_M_row_26 hl  (x1) (x2) (x3) ((1 : Int32)) (v) h
def f_M_row (x1 : Int32) (x2 : Int32) (x3 : Int32) (v : go_V) : Option go_R := bd (f_M_in x1 (0 : Int32) (9 : Int32) v) (fun r_1 => nt r_1 (br (decide (r_1.2.1 = 0)) (f_M_row_21  (x1) (x2) (x3) (r_1.2.2.2)) (bd (f_M_in x2 (0 : Int32) (7 : Int32) r_1.2.2.2) (fun r_5 => nt r_5 (br (decide (r_5.2.1 = 0)) (f_M_row_21  (x1) (x2) (x3) (r_5.2.2.2)) (f_M_row_26  (x1) (x2) (x3) ((0 : Int32)) (r_5.2.2.2)))))))
set_option maxHeartbeats 4000000 in
set_option maxRecDepth 100000 in
theorem Ca_M_row {l : Launch} {G : go_G} {ad : Nat → Nat} (hl : l.stackTraces = false) {r : go_R} {x1 : Int32} {x2 : Int32} {x3 : Int32} {v : go_V} (h : f_M_row x1 x2 x3 v = some r) : Ca l G y_M_row (.code y_M_row c_M_row 4 none :: go_TT) (rmD 1 0) 0 ad [.ref (ad (100)), .int x1, .int x2, .int x3] v r := by
  unfold f_M_row at h
  refine go_body (own := RM) (by decide) rfl (Nat.le_of_ble_eq_true rfl) ?_
  show Go l G M_M_row go_Ex0 (go_E G ad 0 r 0 0) ad v [(0, .ref (ad (100))), (1, .int x1), (2, .int x2), (3, .int x3)] 0 [] 0 0
  refine go_aload_n (d_M_row 0 rfl) rfl rfl ?_
  refine go_iload_n (d_M_row 1 rfl) rfl rfl ?_
  refine go_iconst (x := (0 : Int32)) (d_M_row 2 rfl) (by decide) ?_
  refine go_bipush (x := (9 : Int32)) (d_M_row 3 rfl) (by decide) ?_
  obtain ⟨r_1, o_2, h⟩ := bd_some h
  obtain ⟨z_3, h⟩ := nt_some h
  refine go_cS (As := [.int x1, .int ((0 : Int32)), .int ((9 : Int32))]) (rest := [.ref (ad (100))]) (st2 := [.int (r_1.2.1), .ref (ad (100))]) (c2 := 0) (s2 := 0) rfl rfl rfl rfl (Ca_M_in hl o_2)  (d_M_row 5 rfl) cw_M_73 w_639 ⟨by decide, by decide⟩ rfl (Nat.le_of_ble_eq_true rfl) ⟨by decide, by decide⟩ (fun _ => ?_) (fun q => absurd z_3 q)
  rcases br_some h with ⟨c_4, h⟩ | ⟨c_4, h⟩
  · refine go_if_eq (tgt := 21) (d_M_row 8 rfl) (by decide) (fun _ => ?_) (fun q => absurd (of_decide_eq_true c_4) q)
    exact b_M_row_21 hl  (x1) (x2) (x3) (r_1.2.2.2) h
  · refine go_if_eq (tgt := 21) (d_M_row 8 rfl) (by decide) (fun q => absurd q (of_decide_eq_false c_4)) (fun _ => ?_)
    refine go_iload_n (d_M_row 11 rfl) rfl rfl ?_
    refine go_iconst (x := (0 : Int32)) (d_M_row 12 rfl) (by decide) ?_
    refine go_bipush (x := (7 : Int32)) (d_M_row 13 rfl) (by decide) ?_
    obtain ⟨r_5, o_6, h⟩ := bd_some h
    obtain ⟨z_7, h⟩ := nt_some h
    refine go_cS (As := [.int x2, .int ((0 : Int32)), .int ((7 : Int32))]) (rest := [.ref (ad (100))]) (st2 := [.int (r_5.2.1), .ref (ad (100))]) (c2 := 0) (s2 := 0) rfl rfl rfl rfl (Ca_M_in hl o_6)  (d_M_row 15 rfl) cw_M_73 w_639 ⟨by decide, by decide⟩ rfl (Nat.le_of_ble_eq_true rfl) ⟨by decide, by decide⟩ (fun _ => ?_) (fun q => absurd z_7 q)
    rcases br_some h with ⟨c_8, h⟩ | ⟨c_8, h⟩
    · refine go_if_ne (tgt := 25) (d_M_row 18 rfl) (by decide) (fun q => absurd (of_decide_eq_true c_8) q) (fun _ => ?_)
      exact b_M_row_21 hl  (x1) (x2) (x3) (r_5.2.2.2) h
    · refine go_if_ne (tgt := 25) (d_M_row 18 rfl) (by decide) (fun _ => ?_) (fun q => absurd q (of_decide_eq_false c_8))
      refine go_iconst (x := (0 : Int32)) (d_M_row 25 rfl) (by decide) ?_
      exact b_M_row_26 hl  (x1) (x2) (x3) ((0 : Int32)) (r_5.2.2.2) h
abbrev M_M_top : go_M := (c_M_top, 4, none, RM, [], rmD 1 0)
def f_M_top_63  (x1 : Int32) (x2 : Int32) (x3 : Int32) (y1 : Int32) (v : go_V) : Option go_R := bd (f_M_throwing y1 x2 (0 : Int32) v) (fun r_1 => nt r_1 (br (decide (r_1.2.1 = 0)) (ln (u2 r_1.2.2.2 100 2 x1) (fun v_5 => some (0, 0, 0, v_5))) (some (0, 0, 0, r_1.2.2.2))))
set_option maxHeartbeats 4000000 in
set_option maxRecDepth 100000 in
theorem b_M_top_63 {l : Launch} {G : go_G} {ad : Nat → Nat} (hl : l.stackTraces = false) {r : go_R}  (x1 : Int32) (x2 : Int32) (x3 : Int32) (y1 : Int32) (v : go_V) (h : f_M_top_63  x1 x2 x3 y1 v = some r) : Go l G M_M_top go_Ex0 (go_E G ad 0 r 0 0) ad v [(0, .ref (ad (100))), (1, .int x1), (2, .int x2), (3, .int x3)] 63 [.int y1, .ref (ad (100))] 0 0 := by
  unfold f_M_top_63 at h
  refine go_iload_n (d_M_top 63 rfl) rfl rfl ?_
  refine go_iconst (x := (0 : Int32)) (d_M_top 64 rfl) (by decide) ?_
  obtain ⟨r_1, o_2, h⟩ := bd_some h
  obtain ⟨z_3, h⟩ := nt_some h
  refine go_cV (As := [.int y1, .int x2, .int ((0 : Int32))]) (rest := []) (st2 := [.int (r_1.2.1)]) (c2 := 0) (s2 := 0) rfl rfl rfl rfl (Ca_M_throwing hl o_2)  (d_M_top 65 rfl) cw_M_84 ⟨w_643, w_18⟩ rfl (by decide) rfl ⟨by decide, by decide⟩ rfl (Nat.le_of_ble_eq_true rfl) ⟨by decide, by decide⟩ (fun _ => ?_) (fun q => absurd z_3 q)
  rcases br_some h with ⟨c_4, h⟩ | ⟨c_4, h⟩
  · refine go_if_eq (tgt := 72) (d_M_top 68 rfl) (by decide) (fun _ => ?_) (fun q => absurd (of_decide_eq_true c_4) q)
    refine go_aload_n (d_M_top 72 rfl) rfl rfl ?_
    refine go_iload_n (d_M_top 73 rfl) rfl rfl ?_
    obtain ⟨v_5, ev_5, h⟩ := ln_some h
    refine go_putI (x := x1) (d_M_top 74 rfl) fp_M_88 rfl rfl rfl rfl ?_
    rw [← ev_5]
    exact go_vret (d_M_top 77 rfl) rfl (Option.some.inj h) (by decide) (by decide)
  · refine go_if_eq (tgt := 72) (d_M_top 68 rfl) (by decide) (fun q => absurd q (of_decide_eq_false c_4)) (fun _ => ?_)
    exact go_vret (d_M_top 71 rfl) rfl (Option.some.inj h) (by decide) (by decide)
def f_M_top_40 (rec4 : Int32 → Int32 → Int32 → go_V → Option go_R) (x1 : Int32) (x2 : Int32) (x3 : Int32) (y0 : Int32) (v : go_V) : Option go_R := rec4 (x1) (y0) ((x3 + 1)) (v)
set_option maxHeartbeats 4000000 in
set_option maxRecDepth 100000 in
theorem b_M_top_40 {l : Launch} {G : go_G} {ad : Nat → Nat} (hl : l.stackTraces = false) {r : go_R} (rec4 : Int32 → Int32 → Int32 → go_V → Option go_R) (hrec4 : ∀ (x1 : Int32) (x2 : Int32) (x3 : Int32) (v : go_V), rec4 x1 x2 x3 v = some r → Go l G M_M_top go_Ex0 (go_E G ad 0 r 0 0) ad v [(0, .ref (ad (100))), (1, .int x1), (2, .int x2), (3, .int x3)] 4 [] 0 0) (x1 : Int32) (x2 : Int32) (x3 : Int32) (y0 : Int32) (v : go_V) (h : f_M_top_40 rec4 x1 x2 x3 y0 v = some r) : Go l G M_M_top go_Ex0 (go_E G ad 0 r 0 0) ad v [(0, .ref (ad (100))), (1, .int x1), (2, .int x2), (3, .int x3)] 40 [.int y0] 0 0 := by
  unfold f_M_top_40 at h
  refine go_istore_n (lv' := [(0, .ref (ad (100))), (1, .int x1), (2, .int y0), (3, .int x3)]) (d_M_top 40 rfl) rfl (by decide) rfl ?_
  refine go_iinc (y := (x3 + 1)) (lv' := [(0, .ref (ad (100))), (1, .int x1), (2, .int y0), (3, .int ((x3 + 1)))]) (d_M_top 41 rfl) rfl rfl (by decide) rfl ?_
  refine go_goto (tgt := 4) (d_M_top 44 rfl) (by decide) ?_
  exact hrec4 (x1) (y0) ((x3 + 1)) (v) h
def f_M_top_35 (rec4 : Int32 → Int32 → Int32 → go_V → Option go_R) (x1 : Int32) (x2 : Int32) (x3 : Int32) (v : go_V) : Option go_R := f_M_top_40 (rec4) (x1) (x2) (x3) ((1 : Int32)) (v)
set_option maxHeartbeats 4000000 in
set_option maxRecDepth 100000 in
theorem b_M_top_35 {l : Launch} {G : go_G} {ad : Nat → Nat} (hl : l.stackTraces = false) {r : go_R} (rec4 : Int32 → Int32 → Int32 → go_V → Option go_R) (hrec4 : ∀ (x1 : Int32) (x2 : Int32) (x3 : Int32) (v : go_V), rec4 x1 x2 x3 v = some r → Go l G M_M_top go_Ex0 (go_E G ad 0 r 0 0) ad v [(0, .ref (ad (100))), (1, .int x1), (2, .int x2), (3, .int x3)] 4 [] 0 0) (x1 : Int32) (x2 : Int32) (x3 : Int32) (v : go_V) (h : f_M_top_35 rec4 x1 x2 x3 v = some r) : Go l G M_M_top go_Ex0 (go_E G ad 0 r 0 0) ad v [(0, .ref (ad (100))), (1, .int x1), (2, .int x2), (3, .int x3)] 35 [] 0 0 := by
  unfold f_M_top_35 at h
  refine go_iconst (x := (1 : Int32)) (d_M_top 35 rfl) (by decide) ?_
  refine go_goto (tgt := 40) (d_M_top 36 rfl) (by decide) ?_
  exact b_M_top_40 hl _ hrec4 (x1) (x2) (x3) ((1 : Int32)) (v) h
def f_M_top_39 (rec4 : Int32 → Int32 → Int32 → go_V → Option go_R) (x1 : Int32) (x2 : Int32) (x3 : Int32) (v : go_V) : Option go_R := f_M_top_40 (rec4) (x1) (x2) (x3) ((0 : Int32)) (v)
set_option maxHeartbeats 4000000 in
set_option maxRecDepth 100000 in
theorem b_M_top_39 {l : Launch} {G : go_G} {ad : Nat → Nat} (hl : l.stackTraces = false) {r : go_R} (rec4 : Int32 → Int32 → Int32 → go_V → Option go_R) (hrec4 : ∀ (x1 : Int32) (x2 : Int32) (x3 : Int32) (v : go_V), rec4 x1 x2 x3 v = some r → Go l G M_M_top go_Ex0 (go_E G ad 0 r 0 0) ad v [(0, .ref (ad (100))), (1, .int x1), (2, .int x2), (3, .int x3)] 4 [] 0 0) (x1 : Int32) (x2 : Int32) (x3 : Int32) (v : go_V) (h : f_M_top_39 rec4 x1 x2 x3 v = some r) : Go l G M_M_top go_Ex0 (go_E G ad 0 r 0 0) ad v [(0, .ref (ad (100))), (1, .int x1), (2, .int x2), (3, .int x3)] 39 [] 0 0 := by
  unfold f_M_top_39 at h
  refine go_iconst (x := (0 : Int32)) (d_M_top 39 rfl) (by decide) ?_
  exact b_M_top_40 hl _ hrec4 (x1) (x2) (x3) ((0 : Int32)) (v) h
def f_M_top_4  : Nat → Int32 → Int32 → Int32 → go_V → Option go_R
  | 0, _, _, _, _ => none
  | n + 1, x1, x2, x3, v => br (decide ((v 100 10) ≤ x3)) (bd (f_M_in x1 (0 : Int32) (9 : Int32) v) (fun r_2 => nt r_2 (br (decide (r_2.2.1 = 0)) (f_M_top_63  (x1) (x2) (x3) ((1 : Int32)) (r_2.2.2.2)) (f_M_top_63  (x1) (x2) (x3) ((0 : Int32)) (r_2.2.2.2))))) (br (decide (x2 = 0)) (gd (go_in x3 12) (br (decide ((v 107 x3.toNatClampNeg) = 0)) (f_M_top_39 (f_M_top_4 n) (x1) (x2) (x3) (v)) (gd (go_in x3 12) (br (decide ((v 108 x3.toNatClampNeg) ≤ x1)) (f_M_top_39 (f_M_top_4 n) (x1) (x2) (x3) (v)) (f_M_top_35 (f_M_top_4 n) (x1) (x2) (x3) (v)))))) (f_M_top_35 (f_M_top_4 n) (x1) (x2) (x3) (v)))
set_option maxHeartbeats 4000000 in
set_option maxRecDepth 100000 in
theorem b_M_top_4 {l : Launch} {G : go_G} {ad : Nat → Nat} (hl : l.stackTraces = false) {r : go_R}  : ∀ (n : Nat) (x1 : Int32) (x2 : Int32) (x3 : Int32) (v : go_V), f_M_top_4  n x1 x2 x3 v = some r → Go l G M_M_top go_Ex0 (go_E G ad 0 r 0 0) ad v [(0, .ref (ad (100))), (1, .int x1), (2, .int x2), (3, .int x3)] 4 [] 0 0 := by
  intro n
  induction n with
  | zero =>
    intro x1 x2 x3 v h
    cases h
  | succ n ih =>
    intro x1 x2 x3 v h
    rw [f_M_top_4] at h
    refine go_iload_n (d_M_top 4 rfl) rfl rfl ?_
    refine go_aload_n (d_M_top 5 rfl) rfl rfl ?_
    refine go_getI (d_M_top 6 rfl) fl_M_70 rfl rfl ?_
    rcases br_some h with ⟨c_1, h⟩ | ⟨c_1, h⟩
    · refine go_icmp_ge (tgt := 47) (d_M_top 9 rfl) (by decide) (fun _ => ?_) (fun q => absurd (of_decide_eq_true c_1) q)
      refine go_aload_n (d_M_top 47 rfl) rfl rfl ?_
      refine go_iload_n (d_M_top 48 rfl) rfl rfl ?_
      refine go_iconst (x := (0 : Int32)) (d_M_top 49 rfl) (by decide) ?_
      refine go_bipush (x := (9 : Int32)) (d_M_top 50 rfl) (by decide) ?_
      obtain ⟨r_2, o_3, h⟩ := bd_some h
      obtain ⟨z_4, h⟩ := nt_some h
      refine go_cS (As := [.int x1, .int ((0 : Int32)), .int ((9 : Int32))]) (rest := [.ref (ad (100))]) (st2 := [.int (r_2.2.1), .ref (ad (100))]) (c2 := 0) (s2 := 0) rfl rfl rfl rfl (Ca_M_in hl o_3)  (d_M_top 52 rfl) cw_M_73 w_639 ⟨by decide, by decide⟩ rfl (Nat.le_of_ble_eq_true rfl) ⟨by decide, by decide⟩ (fun _ => ?_) (fun q => absurd z_4 q)
      rcases br_some h with ⟨c_5, h⟩ | ⟨c_5, h⟩
      · refine go_if_ne (tgt := 62) (d_M_top 55 rfl) (by decide) (fun q => absurd (of_decide_eq_true c_5) q) (fun _ => ?_)
        refine go_iconst (x := (1 : Int32)) (d_M_top 58 rfl) (by decide) ?_
        refine go_goto (tgt := 63) (d_M_top 59 rfl) (by decide) ?_
        exact b_M_top_63 hl  (x1) (x2) (x3) ((1 : Int32)) (r_2.2.2.2) h
      · refine go_if_ne (tgt := 62) (d_M_top 55 rfl) (by decide) (fun _ => ?_) (fun q => absurd q (of_decide_eq_false c_5))
        refine go_iconst (x := (0 : Int32)) (d_M_top 62 rfl) (by decide) ?_
        exact b_M_top_63 hl  (x1) (x2) (x3) ((0 : Int32)) (r_2.2.2.2) h
    · refine go_icmp_ge (tgt := 47) (d_M_top 9 rfl) (by decide) (fun q => absurd q (of_decide_eq_false c_1)) (fun _ => ?_)
      refine go_iload_n (d_M_top 12 rfl) rfl rfl ?_
      rcases br_some h with ⟨c_6, h⟩ | ⟨c_6, h⟩
      · refine go_if_ne (tgt := 35) (d_M_top 13 rfl) (by decide) (fun q => absurd (of_decide_eq_true c_6) q) (fun _ => ?_)
        refine go_aload_n (d_M_top 16 rfl) rfl rfl ?_
        refine go_getR (d_M_top 17 rfl) fl_M_28 rfl rfl ?_
        show Go _ _ _ _ _ _ _ _ _ (.ref (ad (107)) :: []) _ _
        refine go_iload_n (d_M_top 20 rfl) rfl rfl ?_
        obtain ⟨g_7, h⟩ := gd_some h
        refine go_zald (d_M_top 21 rfl) rfl g_7 ?_
        rcases br_some h with ⟨c_8, h⟩ | ⟨c_8, h⟩
        · refine go_if_eq (tgt := 39) (d_M_top 22 rfl) (by decide) (fun _ => ?_) (fun q => absurd (of_decide_eq_true c_8) q)
          exact b_M_top_39 hl _ ih (x1) (x2) (x3) (v) h
        · refine go_if_eq (tgt := 39) (d_M_top 22 rfl) (by decide) (fun q => absurd q (of_decide_eq_false c_8)) (fun _ => ?_)
          refine go_aload_n (d_M_top 25 rfl) rfl rfl ?_
          refine go_getR (d_M_top 26 rfl) fl_M_32 rfl rfl ?_
          show Go _ _ _ _ _ _ _ _ _ (.ref (ad (108)) :: []) _ _
          refine go_iload_n (d_M_top 29 rfl) rfl rfl ?_
          obtain ⟨g_9, h⟩ := gd_some h
          refine go_iald (d_M_top 30 rfl) rfl g_9 ?_
          refine go_iload_n (d_M_top 31 rfl) rfl rfl ?_
          rcases br_some h with ⟨c_10, h⟩ | ⟨c_10, h⟩
          · refine go_icmp_le (tgt := 39) (d_M_top 32 rfl) (by decide) (fun _ => ?_) (fun q => absurd (of_decide_eq_true c_10) q)
            exact b_M_top_39 hl _ ih (x1) (x2) (x3) (v) h
          · refine go_icmp_le (tgt := 39) (d_M_top 32 rfl) (by decide) (fun q => absurd q (of_decide_eq_false c_10)) (fun _ => ?_)
            exact b_M_top_35 hl _ ih (x1) (x2) (x3) (v) h
      · refine go_if_ne (tgt := 35) (d_M_top 13 rfl) (by decide) (fun _ => ?_) (fun q => absurd q (of_decide_eq_false c_6))
        exact b_M_top_35 hl _ ih (x1) (x2) (x3) (v) h
def f_M_top (x1 : Int32) (v : go_V) : Option go_R := f_M_top_4  FU (x1) ((0 : Int32)) ((0 : Int32)) (v)
set_option maxHeartbeats 4000000 in
set_option maxRecDepth 100000 in
theorem Ca_M_top {l : Launch} {G : go_G} {ad : Nat → Nat} (hl : l.stackTraces = false) {r : go_R} {x1 : Int32} {v : go_V} (h : f_M_top x1 v = some r) : Ca l G y_M_top (.code y_M_top c_M_top 4 none :: go_TT) (rmD 1 0) 0 ad [.ref (ad (100)), .int x1] v r := by
  unfold f_M_top at h
  refine go_body (own := RM) (by decide) rfl (Nat.le_of_ble_eq_true rfl) ?_
  show Go l G M_M_top go_Ex0 (go_E G ad 0 r 0 0) ad v [(0, .ref (ad (100))), (1, .int x1)] 0 [] 0 0
  refine go_iconst (x := (0 : Int32)) (d_M_top 0 rfl) (by decide) ?_
  refine go_istore_n (lv' := [(0, .ref (ad (100))), (1, .int x1), (2, .int ((0 : Int32)))]) (d_M_top 1 rfl) rfl (by decide) rfl ?_
  refine go_iconst (x := (0 : Int32)) (d_M_top 2 rfl) (by decide) ?_
  refine go_istore_n (lv' := [(0, .ref (ad (100))), (1, .int x1), (2, .int ((0 : Int32))), (3, .int ((0 : Int32)))]) (d_M_top 3 rfl) rfl (by decide) rfl ?_
  exact b_M_top_4 hl  FU (x1) ((0 : Int32)) ((0 : Int32)) (v) h
abbrev M_M_trigger : go_M := (c_M_trigger, 7, (some .int), RM, [], rmD 1 0)
def f_M_trigger_118  (x1 : Int32) (x2 : Int32) (x3 : Int32) (x4 : Int32) (x5 : Int32) (x6 : Int32) (y1 : Int32) (y2 : Int32) (y3 : Int32) (v : go_V) : Option go_R := bd (f_M_throwing y1 y2 y3 v) (fun r_1 => nt r_1 (br (decide (r_1.2.1 = 0)) (gd (go_in (r_1.2.2.2 100 4) 20) (ln (u2 r_1.2.2.2 102 (r_1.2.2.2 100 4).toNatClampNeg x1) (fun v_6 => gd (go_in (v_6 100 4) 20) (ln (u2 v_6 103 (v_6 100 4).toNatClampNeg x2) (fun v_8 => gd (go_in (v_8 100 4) 20) (ln (u2 v_8 104 (v_8 100 4).toNatClampNeg x3) (fun v_10 => gd (go_in (v_10 100 4) 20) (ln (u2 v_10 105 (v_10 100 4).toNatClampNeg x4) (fun v_12 => ln (u2 v_12 100 4 ((v_12 100 4) + (1 : Int32))) (fun v_13 => some (0, ((v_13 100 4) - (1 : Int32)), 0, v_13))))))))))) (some (0, (0 : Int32), 0, r_1.2.2.2))))
set_option maxHeartbeats 4000000 in
set_option maxRecDepth 100000 in
theorem b_M_trigger_118 {l : Launch} {G : go_G} {ad : Nat → Nat} (hl : l.stackTraces = false) {r : go_R}  (x1 : Int32) (x2 : Int32) (x3 : Int32) (x4 : Int32) (x5 : Int32) (x6 : Int32) (y1 : Int32) (y2 : Int32) (y3 : Int32) (v : go_V) (h : f_M_trigger_118  x1 x2 x3 x4 x5 x6 y1 y2 y3 v = some r) : Go l G M_M_trigger go_Ex0 (go_E G ad 1 r 0 0) ad v [(0, .ref (ad (100))), (1, .int x1), (2, .int x2), (3, .int x3), (4, .int x4), (5, .int x5), (6, .int x6)] 118 [.int y3, .int y2, .int y1, .ref (ad (100))] 0 0 := by
  unfold f_M_trigger_118 at h
  obtain ⟨r_1, o_2, h⟩ := bd_some h
  obtain ⟨z_3, h⟩ := nt_some h
  refine go_cV (As := [.int y1, .int y2, .int y3]) (rest := []) (st2 := [.int (r_1.2.1)]) (c2 := 0) (s2 := 0) rfl rfl rfl rfl (Ca_M_throwing hl o_2)  (d_M_trigger 118 rfl) cw_M_84 ⟨w_643, w_18⟩ rfl (by decide) rfl ⟨by decide, by decide⟩ rfl (Nat.le_of_ble_eq_true rfl) ⟨by decide, by decide⟩ (fun _ => ?_) (fun q => absurd z_3 q)
  rcases br_some h with ⟨c_4, h⟩ | ⟨c_4, h⟩
  · refine go_if_eq (tgt := 126) (d_M_trigger 121 rfl) (by decide) (fun _ => ?_) (fun q => absurd (of_decide_eq_true c_4) q)
    refine go_aload_n (d_M_trigger 126 rfl) rfl rfl ?_
    refine go_getR (d_M_trigger 127 rfl) fl_M_13 rfl rfl ?_
    show Go _ _ _ _ _ _ _ _ _ (.ref (ad (102)) :: []) _ _
    refine go_aload_n (d_M_trigger 130 rfl) rfl rfl ?_
    refine go_getI (d_M_trigger 131 rfl) fl_M_92 rfl rfl ?_
    refine go_iload_n (d_M_trigger 134 rfl) rfl rfl ?_
    obtain ⟨g_5, h⟩ := gd_some h
    obtain ⟨v_6, ev_6, h⟩ := ln_some h
    refine go_iast (y := x1) (d_M_trigger 135 rfl) rfl g_5 ?_
    rw [← ev_6]
    refine go_aload_n (d_M_trigger 136 rfl) rfl rfl ?_
    refine go_getR (d_M_trigger 137 rfl) fl_M_16 rfl rfl ?_
    show Go _ _ _ _ _ _ _ _ _ (.ref (ad (103)) :: []) _ _
    refine go_aload_n (d_M_trigger 140 rfl) rfl rfl ?_
    refine go_getI (d_M_trigger 141 rfl) fl_M_92 rfl rfl ?_
    refine go_iload_n (d_M_trigger 144 rfl) rfl rfl ?_
    obtain ⟨g_7, h⟩ := gd_some h
    obtain ⟨v_8, ev_8, h⟩ := ln_some h
    refine go_iast (y := x2) (d_M_trigger 145 rfl) rfl g_7 ?_
    rw [← ev_8]
    refine go_aload_n (d_M_trigger 146 rfl) rfl rfl ?_
    refine go_getR (d_M_trigger 147 rfl) fl_M_19 rfl rfl ?_
    show Go _ _ _ _ _ _ _ _ _ (.ref (ad (104)) :: []) _ _
    refine go_aload_n (d_M_trigger 150 rfl) rfl rfl ?_
    refine go_getI (d_M_trigger 151 rfl) fl_M_92 rfl rfl ?_
    refine go_iload_n (d_M_trigger 154 rfl) rfl rfl ?_
    obtain ⟨g_9, h⟩ := gd_some h
    obtain ⟨v_10, ev_10, h⟩ := ln_some h
    refine go_iast (y := x3) (d_M_trigger 155 rfl) rfl g_9 ?_
    rw [← ev_10]
    refine go_aload_n (d_M_trigger 156 rfl) rfl rfl ?_
    refine go_getR (d_M_trigger 157 rfl) fl_M_22 rfl rfl ?_
    show Go _ _ _ _ _ _ _ _ _ (.ref (ad (105)) :: []) _ _
    refine go_aload_n (d_M_trigger 160 rfl) rfl rfl ?_
    refine go_getI (d_M_trigger 161 rfl) fl_M_92 rfl rfl ?_
    refine go_iload (d_M_trigger 164 rfl) rfl ?_
    obtain ⟨g_11, h⟩ := gd_some h
    obtain ⟨v_12, ev_12, h⟩ := ln_some h
    refine go_iast (y := x4) (d_M_trigger 166 rfl) rfl g_11 ?_
    rw [← ev_12]
    refine go_aload_n (d_M_trigger 167 rfl) rfl rfl ?_
    refine go_dup (d_M_trigger 168 rfl) rfl ?_
    refine go_getI (d_M_trigger 169 rfl) fl_M_92 rfl rfl ?_
    refine go_iconst (x := (1 : Int32)) (d_M_trigger 172 rfl) (by decide) ?_
    refine go_iadd (d_M_trigger 173 rfl) ?_
    obtain ⟨v_13, ev_13, h⟩ := ln_some h
    refine go_putI (x := ((v_12 100 4) + (1 : Int32))) (d_M_trigger 174 rfl) fp_M_92 rfl rfl rfl rfl ?_
    rw [← ev_13]
    refine go_aload_n (d_M_trigger 177 rfl) rfl rfl ?_
    refine go_getI (d_M_trigger 178 rfl) fl_M_92 rfl rfl ?_
    refine go_iconst (x := (1 : Int32)) (d_M_trigger 181 rfl) (by decide) ?_
    refine go_isub (d_M_trigger 182 rfl) ?_
    exact go_iret (d_M_trigger 183 rfl) rfl rfl (Option.some.inj h) (by decide) (by decide)
  · refine go_if_eq (tgt := 126) (d_M_trigger 121 rfl) (by decide) (fun q => absurd q (of_decide_eq_false c_4)) (fun _ => ?_)
    refine go_iconst (x := (0 : Int32)) (d_M_trigger 124 rfl) (by decide) ?_
    exact go_iret (d_M_trigger 125 rfl) rfl rfl (Option.some.inj h) (by decide) (by decide)
def f_M_trigger_104  (x1 : Int32) (x2 : Int32) (x3 : Int32) (x4 : Int32) (x5 : Int32) (x6 : Int32) (y1 : Int32) (y2 : Int32) (v : go_V) : Option go_R := br (decide ((v 100 4) = (20 : Int32))) (f_M_trigger_118  (x1) (x2) (x3) (x4) (x5) (x6) (y1) (y2) ((1 : Int32)) (v)) (f_M_trigger_118  (x1) (x2) (x3) (x4) (x5) (x6) (y1) (y2) ((0 : Int32)) (v))
set_option maxHeartbeats 4000000 in
set_option maxRecDepth 100000 in
theorem b_M_trigger_104 {l : Launch} {G : go_G} {ad : Nat → Nat} (hl : l.stackTraces = false) {r : go_R}  (x1 : Int32) (x2 : Int32) (x3 : Int32) (x4 : Int32) (x5 : Int32) (x6 : Int32) (y1 : Int32) (y2 : Int32) (v : go_V) (h : f_M_trigger_104  x1 x2 x3 x4 x5 x6 y1 y2 v = some r) : Go l G M_M_trigger go_Ex0 (go_E G ad 1 r 0 0) ad v [(0, .ref (ad (100))), (1, .int x1), (2, .int x2), (3, .int x3), (4, .int x4), (5, .int x5), (6, .int x6)] 104 [.int y2, .int y1, .ref (ad (100))] 0 0 := by
  unfold f_M_trigger_104 at h
  refine go_aload_n (d_M_trigger 104 rfl) rfl rfl ?_
  refine go_getI (d_M_trigger 105 rfl) fl_M_92 rfl rfl ?_
  refine go_bipush (x := (20 : Int32)) (d_M_trigger 108 rfl) (by decide) ?_
  rcases br_some h with ⟨c_1, h⟩ | ⟨c_1, h⟩
  · refine go_icmp_ne (tgt := 117) (d_M_trigger 110 rfl) (by decide) (fun q => absurd (of_decide_eq_true c_1) q) (fun _ => ?_)
    refine go_iconst (x := (1 : Int32)) (d_M_trigger 113 rfl) (by decide) ?_
    refine go_goto (tgt := 118) (d_M_trigger 114 rfl) (by decide) ?_
    exact b_M_trigger_118 hl  (x1) (x2) (x3) (x4) (x5) (x6) (y1) (y2) ((1 : Int32)) (v) h
  · refine go_icmp_ne (tgt := 117) (d_M_trigger 110 rfl) (by decide) (fun _ => ?_) (fun q => absurd q (of_decide_eq_false c_1))
    refine go_iconst (x := (0 : Int32)) (d_M_trigger 117 rfl) (by decide) ?_
    exact b_M_trigger_118 hl  (x1) (x2) (x3) (x4) (x5) (x6) (y1) (y2) ((0 : Int32)) (v) h
def f_M_trigger_99  (x1 : Int32) (x2 : Int32) (x3 : Int32) (x4 : Int32) (x5 : Int32) (x6 : Int32) (y1 : Int32) (v : go_V) : Option go_R := f_M_trigger_104  (x1) (x2) (x3) (x4) (x5) (x6) (y1) ((1 : Int32)) (v)
set_option maxHeartbeats 4000000 in
set_option maxRecDepth 100000 in
theorem b_M_trigger_99 {l : Launch} {G : go_G} {ad : Nat → Nat} (hl : l.stackTraces = false) {r : go_R}  (x1 : Int32) (x2 : Int32) (x3 : Int32) (x4 : Int32) (x5 : Int32) (x6 : Int32) (y1 : Int32) (v : go_V) (h : f_M_trigger_99  x1 x2 x3 x4 x5 x6 y1 v = some r) : Go l G M_M_trigger go_Ex0 (go_E G ad 1 r 0 0) ad v [(0, .ref (ad (100))), (1, .int x1), (2, .int x2), (3, .int x3), (4, .int x4), (5, .int x5), (6, .int x6)] 99 [.int y1, .ref (ad (100))] 0 0 := by
  unfold f_M_trigger_99 at h
  refine go_iconst (x := (1 : Int32)) (d_M_trigger 99 rfl) (by decide) ?_
  refine go_goto (tgt := 104) (d_M_trigger 100 rfl) (by decide) ?_
  exact b_M_trigger_104 hl  (x1) (x2) (x3) (x4) (x5) (x6) (y1) ((1 : Int32)) (v) h
def f_M_trigger_78  (x1 : Int32) (x2 : Int32) (x3 : Int32) (x4 : Int32) (x5 : Int32) (y0 : Int32) (v : go_V) : Option go_R := br (decide (y0 = 0)) (f_M_trigger_99  (x1) (x2) (x3) (x4) (x5) (y0) (x5) (v)) (bd (f_M_in x4 (0 : Int32) (100000 : Int32) v) (fun r_2 => nt r_2 (br (decide (r_2.2.1 = 0)) (f_M_trigger_99  (x1) (x2) (x3) (x4) (x5) (y0) (x5) (r_2.2.2.2)) (f_M_trigger_104  (x1) (x2) (x3) (x4) (x5) (y0) (x5) ((0 : Int32)) (r_2.2.2.2)))))
set_option maxHeartbeats 4000000 in
set_option maxRecDepth 100000 in
theorem b_M_trigger_78 {l : Launch} {G : go_G} {ad : Nat → Nat} (hl : l.stackTraces = false) {r : go_R}  (x1 : Int32) (x2 : Int32) (x3 : Int32) (x4 : Int32) (x5 : Int32) (y0 : Int32) (v : go_V) (h : f_M_trigger_78  x1 x2 x3 x4 x5 y0 v = some r) : Go l G M_M_trigger go_Ex0 (go_E G ad 1 r 0 0) ad v [(0, .ref (ad (100))), (1, .int x1), (2, .int x2), (3, .int x3), (4, .int x4), (5, .int x5)] 78 [.int y0] 0 0 := by
  unfold f_M_trigger_78 at h
  refine go_istore (lv' := [(0, .ref (ad (100))), (1, .int x1), (2, .int x2), (3, .int x3), (4, .int x4), (5, .int x5), (6, .int y0)]) (d_M_trigger 78 rfl) (by decide) rfl ?_
  refine go_aload_n (d_M_trigger 80 rfl) rfl rfl ?_
  refine go_iload (d_M_trigger 81 rfl) rfl ?_
  refine go_iload (d_M_trigger 83 rfl) rfl ?_
  rcases br_some h with ⟨c_1, h⟩ | ⟨c_1, h⟩
  · refine go_if_eq (tgt := 99) (d_M_trigger 85 rfl) (by decide) (fun _ => ?_) (fun q => absurd (of_decide_eq_true c_1) q)
    exact b_M_trigger_99 hl  (x1) (x2) (x3) (x4) (x5) (y0) (x5) (v) h
  · refine go_if_eq (tgt := 99) (d_M_trigger 85 rfl) (by decide) (fun q => absurd q (of_decide_eq_false c_1)) (fun _ => ?_)
    refine go_iload (d_M_trigger 88 rfl) rfl ?_
    refine go_iconst (x := (0 : Int32)) (d_M_trigger 90 rfl) (by decide) ?_
    refine go_ldc (x := (100000 : Int32)) (d_M_trigger 91 rfl) w_653 ?_
    obtain ⟨r_2, o_3, h⟩ := bd_some h
    obtain ⟨z_4, h⟩ := nt_some h
    refine go_cS (As := [.int x4, .int ((0 : Int32)), .int ((100000 : Int32))]) (rest := [.int x5, .ref (ad (100))]) (st2 := [.int (r_2.2.1), .int x5, .ref (ad (100))]) (c2 := 0) (s2 := 0) rfl rfl rfl rfl (Ca_M_in hl o_3)  (d_M_trigger 93 rfl) cw_M_73 w_639 ⟨by decide, by decide⟩ rfl (Nat.le_of_ble_eq_true rfl) ⟨by decide, by decide⟩ (fun _ => ?_) (fun q => absurd z_4 q)
    rcases br_some h with ⟨c_5, h⟩ | ⟨c_5, h⟩
    · refine go_if_ne (tgt := 103) (d_M_trigger 96 rfl) (by decide) (fun q => absurd (of_decide_eq_true c_5) q) (fun _ => ?_)
      exact b_M_trigger_99 hl  (x1) (x2) (x3) (x4) (x5) (y0) (x5) (r_2.2.2.2) h
    · refine go_if_ne (tgt := 103) (d_M_trigger 96 rfl) (by decide) (fun _ => ?_) (fun q => absurd q (of_decide_eq_false c_5))
      refine go_iconst (x := (0 : Int32)) (d_M_trigger 103 rfl) (by decide) ?_
      exact b_M_trigger_104 hl  (x1) (x2) (x3) (x4) (x5) (y0) (x5) ((0 : Int32)) (r_2.2.2.2) h
def f_M_trigger_24  (x1 : Int32) (x2 : Int32) (x3 : Int32) (x4 : Int32) (y0 : Int32) (v : go_V) : Option go_R := br (decide (x1 = 0)) (bd (f_M_in x2 (0 : Int32) (99 : Int32) v) (fun r_13 => nt r_13 (f_M_trigger_78  (x1) (x2) (x3) (x4) (y0) (r_13.2.1) (r_13.2.2.2)))) (br (decide (x1 = (1 : Int32))) (bd (f_M_in x2 (1 : Int32) (1000 : Int32) v) (fun r_10 => nt r_10 (f_M_trigger_78  (x1) (x2) (x3) (x4) (y0) (r_10.2.1) (r_10.2.2.2)))) (br (decide (x1 = (2 : Int32))) (bd (f_M_in x2 (1 : Int32) (100000 : Int32) v) (fun r_7 => nt r_7 (f_M_trigger_78  (x1) (x2) (x3) (x4) (y0) (r_7.2.1) (r_7.2.2.2)))) (bd (f_M_in x2 (0 : Int32) (9 : Int32) v) (fun r_4 => nt r_4 (f_M_trigger_78  (x1) (x2) (x3) (x4) (y0) (r_4.2.1) (r_4.2.2.2))))))
set_option maxHeartbeats 4000000 in
set_option maxRecDepth 100000 in
theorem b_M_trigger_24 {l : Launch} {G : go_G} {ad : Nat → Nat} (hl : l.stackTraces = false) {r : go_R}  (x1 : Int32) (x2 : Int32) (x3 : Int32) (x4 : Int32) (y0 : Int32) (v : go_V) (h : f_M_trigger_24  x1 x2 x3 x4 y0 v = some r) : Go l G M_M_trigger go_Ex0 (go_E G ad 1 r 0 0) ad v [(0, .ref (ad (100))), (1, .int x1), (2, .int x2), (3, .int x3), (4, .int x4)] 24 [.int y0] 0 0 := by
  unfold f_M_trigger_24 at h
  refine go_istore (lv' := [(0, .ref (ad (100))), (1, .int x1), (2, .int x2), (3, .int x3), (4, .int x4), (5, .int y0)]) (d_M_trigger 24 rfl) (by decide) rfl ?_
  refine go_iload_n (d_M_trigger 26 rfl) rfl rfl ?_
  rcases br_some h with ⟨c_1, h⟩ | ⟨c_1, h⟩
  · refine go_if_ne (tgt := 40) (d_M_trigger 27 rfl) (by decide) (fun q => absurd (of_decide_eq_true c_1) q) (fun _ => ?_)
    refine go_iload_n (d_M_trigger 30 rfl) rfl rfl ?_
    refine go_iconst (x := (0 : Int32)) (d_M_trigger 31 rfl) (by decide) ?_
    refine go_bipush (x := (99 : Int32)) (d_M_trigger 32 rfl) (by decide) ?_
    obtain ⟨r_13, o_14, h⟩ := bd_some h
    obtain ⟨z_15, h⟩ := nt_some h
    refine go_cS (As := [.int x2, .int ((0 : Int32)), .int ((99 : Int32))]) (rest := []) (st2 := [.int (r_13.2.1)]) (c2 := 0) (s2 := 0) rfl rfl rfl rfl (Ca_M_in hl o_14)  (d_M_trigger 34 rfl) cw_M_73 w_639 ⟨by decide, by decide⟩ rfl (Nat.le_of_ble_eq_true rfl) ⟨by decide, by decide⟩ (fun _ => ?_) (fun q => absurd z_15 q)
    refine go_goto (tgt := 78) (d_M_trigger 37 rfl) (by decide) ?_
    exact b_M_trigger_78 hl  (x1) (x2) (x3) (x4) (y0) (r_13.2.1) (r_13.2.2.2) h
  · refine go_if_ne (tgt := 40) (d_M_trigger 27 rfl) (by decide) (fun _ => ?_) (fun q => absurd q (of_decide_eq_false c_1))
    refine go_iload_n (d_M_trigger 40 rfl) rfl rfl ?_
    refine go_iconst (x := (1 : Int32)) (d_M_trigger 41 rfl) (by decide) ?_
    rcases br_some h with ⟨c_2, h⟩ | ⟨c_2, h⟩
    · refine go_icmp_ne (tgt := 56) (d_M_trigger 42 rfl) (by decide) (fun q => absurd (of_decide_eq_true c_2) q) (fun _ => ?_)
      refine go_iload_n (d_M_trigger 45 rfl) rfl rfl ?_
      refine go_iconst (x := (1 : Int32)) (d_M_trigger 46 rfl) (by decide) ?_
      refine go_sipush (x := (1000 : Int32)) (d_M_trigger 47 rfl) (by decide) ?_
      obtain ⟨r_10, o_11, h⟩ := bd_some h
      obtain ⟨z_12, h⟩ := nt_some h
      refine go_cS (As := [.int x2, .int ((1 : Int32)), .int ((1000 : Int32))]) (rest := []) (st2 := [.int (r_10.2.1)]) (c2 := 0) (s2 := 0) rfl rfl rfl rfl (Ca_M_in hl o_11)  (d_M_trigger 50 rfl) cw_M_73 w_639 ⟨by decide, by decide⟩ rfl (Nat.le_of_ble_eq_true rfl) ⟨by decide, by decide⟩ (fun _ => ?_) (fun q => absurd z_12 q)
      refine go_goto (tgt := 78) (d_M_trigger 53 rfl) (by decide) ?_
      exact b_M_trigger_78 hl  (x1) (x2) (x3) (x4) (y0) (r_10.2.1) (r_10.2.2.2) h
    · refine go_icmp_ne (tgt := 56) (d_M_trigger 42 rfl) (by decide) (fun _ => ?_) (fun q => absurd q (of_decide_eq_false c_2))
      refine go_iload_n (d_M_trigger 56 rfl) rfl rfl ?_
      refine go_iconst (x := (2 : Int32)) (d_M_trigger 57 rfl) (by decide) ?_
      rcases br_some h with ⟨c_3, h⟩ | ⟨c_3, h⟩
      · refine go_icmp_ne (tgt := 71) (d_M_trigger 58 rfl) (by decide) (fun q => absurd (of_decide_eq_true c_3) q) (fun _ => ?_)
        refine go_iload_n (d_M_trigger 61 rfl) rfl rfl ?_
        refine go_iconst (x := (1 : Int32)) (d_M_trigger 62 rfl) (by decide) ?_
        refine go_ldc (x := (100000 : Int32)) (d_M_trigger 63 rfl) w_653 ?_
        obtain ⟨r_7, o_8, h⟩ := bd_some h
        obtain ⟨z_9, h⟩ := nt_some h
        refine go_cS (As := [.int x2, .int ((1 : Int32)), .int ((100000 : Int32))]) (rest := []) (st2 := [.int (r_7.2.1)]) (c2 := 0) (s2 := 0) rfl rfl rfl rfl (Ca_M_in hl o_8)  (d_M_trigger 65 rfl) cw_M_73 w_639 ⟨by decide, by decide⟩ rfl (Nat.le_of_ble_eq_true rfl) ⟨by decide, by decide⟩ (fun _ => ?_) (fun q => absurd z_9 q)
        refine go_goto (tgt := 78) (d_M_trigger 68 rfl) (by decide) ?_
        exact b_M_trigger_78 hl  (x1) (x2) (x3) (x4) (y0) (r_7.2.1) (r_7.2.2.2) h
      · refine go_icmp_ne (tgt := 71) (d_M_trigger 58 rfl) (by decide) (fun _ => ?_) (fun q => absurd q (of_decide_eq_false c_3))
        refine go_iload_n (d_M_trigger 71 rfl) rfl rfl ?_
        refine go_iconst (x := (0 : Int32)) (d_M_trigger 72 rfl) (by decide) ?_
        refine go_bipush (x := (9 : Int32)) (d_M_trigger 73 rfl) (by decide) ?_
        obtain ⟨r_4, o_5, h⟩ := bd_some h
        obtain ⟨z_6, h⟩ := nt_some h
        refine go_cS (As := [.int x2, .int ((0 : Int32)), .int ((9 : Int32))]) (rest := []) (st2 := [.int (r_4.2.1)]) (c2 := 0) (s2 := 0) rfl rfl rfl rfl (Ca_M_in hl o_5)  (d_M_trigger 75 rfl) cw_M_73 w_639 ⟨by decide, by decide⟩ rfl (Nat.le_of_ble_eq_true rfl) ⟨by decide, by decide⟩ (fun _ => ?_) (fun q => absurd z_6 q)
        exact b_M_trigger_78 hl  (x1) (x2) (x3) (x4) (y0) (r_4.2.1) (r_4.2.2.2) h
def f_M_trigger_19  (x1 : Int32) (x2 : Int32) (x3 : Int32) (x4 : Int32) (v : go_V) : Option go_R := f_M_trigger_24  (x1) (x2) (x3) (x4) ((1 : Int32)) (v)
set_option maxHeartbeats 4000000 in
set_option maxRecDepth 100000 in
theorem b_M_trigger_19 {l : Launch} {G : go_G} {ad : Nat → Nat} (hl : l.stackTraces = false) {r : go_R}  (x1 : Int32) (x2 : Int32) (x3 : Int32) (x4 : Int32) (v : go_V) (h : f_M_trigger_19  x1 x2 x3 x4 v = some r) : Go l G M_M_trigger go_Ex0 (go_E G ad 1 r 0 0) ad v [(0, .ref (ad (100))), (1, .int x1), (2, .int x2), (3, .int x3), (4, .int x4)] 19 [] 0 0 := by
  unfold f_M_trigger_19 at h
  refine go_iconst (x := (1 : Int32)) (d_M_trigger 19 rfl) (by decide) ?_
  refine go_goto (tgt := 24) (d_M_trigger 20 rfl) (by decide) ?_
  exact b_M_trigger_24 hl  (x1) (x2) (x3) (x4) ((1 : Int32)) (v) h
def f_M_trigger (x1 : Int32) (x2 : Int32) (x3 : Int32) (x4 : Int32) (v : go_V) : Option go_R := bd (f_M_in x1 (0 : Int32) (3 : Int32) v) (fun r_1 => nt r_1 (br (decide (r_1.2.1 = 0)) (f_M_trigger_19  (x1) (x2) (x3) (x4) (r_1.2.2.2)) (bd (f_M_in x3 (0 : Int32) (9 : Int32) r_1.2.2.2) (fun r_5 => nt r_5 (br (decide (r_5.2.1 = 0)) (f_M_trigger_19  (x1) (x2) (x3) (x4) (r_5.2.2.2)) (f_M_trigger_24  (x1) (x2) (x3) (x4) ((0 : Int32)) (r_5.2.2.2)))))))
set_option maxHeartbeats 4000000 in
set_option maxRecDepth 100000 in
theorem Ca_M_trigger {l : Launch} {G : go_G} {ad : Nat → Nat} (hl : l.stackTraces = false) {r : go_R} {x1 : Int32} {x2 : Int32} {x3 : Int32} {x4 : Int32} {v : go_V} (h : f_M_trigger x1 x2 x3 x4 v = some r) : Ca l G y_M_trigger (.code y_M_trigger c_M_trigger 7 (some .int) :: go_TT) (rmD 1 0) 1 ad [.ref (ad (100)), .int x1, .int x2, .int x3, .int x4] v r := by
  unfold f_M_trigger at h
  refine go_body (own := RM) (by decide) rfl (Nat.le_of_ble_eq_true rfl) ?_
  show Go l G M_M_trigger go_Ex0 (go_E G ad 1 r 0 0) ad v [(0, .ref (ad (100))), (1, .int x1), (2, .int x2), (3, .int x3), (4, .int x4)] 0 [] 0 0
  refine go_iload_n (d_M_trigger 0 rfl) rfl rfl ?_
  refine go_iconst (x := (0 : Int32)) (d_M_trigger 1 rfl) (by decide) ?_
  refine go_iconst (x := (3 : Int32)) (d_M_trigger 2 rfl) (by decide) ?_
  obtain ⟨r_1, o_2, h⟩ := bd_some h
  obtain ⟨z_3, h⟩ := nt_some h
  refine go_cS (As := [.int x1, .int ((0 : Int32)), .int ((3 : Int32))]) (rest := []) (st2 := [.int (r_1.2.1)]) (c2 := 0) (s2 := 0) rfl rfl rfl rfl (Ca_M_in hl o_2)  (d_M_trigger 3 rfl) cw_M_73 w_639 ⟨by decide, by decide⟩ rfl (Nat.le_of_ble_eq_true rfl) ⟨by decide, by decide⟩ (fun _ => ?_) (fun q => absurd z_3 q)
  rcases br_some h with ⟨c_4, h⟩ | ⟨c_4, h⟩
  · refine go_if_eq (tgt := 19) (d_M_trigger 6 rfl) (by decide) (fun _ => ?_) (fun q => absurd (of_decide_eq_true c_4) q)
    exact b_M_trigger_19 hl  (x1) (x2) (x3) (x4) (r_1.2.2.2) h
  · refine go_if_eq (tgt := 19) (d_M_trigger 6 rfl) (by decide) (fun q => absurd q (of_decide_eq_false c_4)) (fun _ => ?_)
    refine go_iload_n (d_M_trigger 9 rfl) rfl rfl ?_
    refine go_iconst (x := (0 : Int32)) (d_M_trigger 10 rfl) (by decide) ?_
    refine go_bipush (x := (9 : Int32)) (d_M_trigger 11 rfl) (by decide) ?_
    obtain ⟨r_5, o_6, h⟩ := bd_some h
    obtain ⟨z_7, h⟩ := nt_some h
    refine go_cS (As := [.int x3, .int ((0 : Int32)), .int ((9 : Int32))]) (rest := []) (st2 := [.int (r_5.2.1)]) (c2 := 0) (s2 := 0) rfl rfl rfl rfl (Ca_M_in hl o_6)  (d_M_trigger 13 rfl) cw_M_73 w_639 ⟨by decide, by decide⟩ rfl (Nat.le_of_ble_eq_true rfl) ⟨by decide, by decide⟩ (fun _ => ?_) (fun q => absurd z_7 q)
    rcases br_some h with ⟨c_8, h⟩ | ⟨c_8, h⟩
    · refine go_if_ne (tgt := 23) (d_M_trigger 16 rfl) (by decide) (fun q => absurd (of_decide_eq_true c_8) q) (fun _ => ?_)
      exact b_M_trigger_19 hl  (x1) (x2) (x3) (x4) (r_5.2.2.2) h
    · refine go_if_ne (tgt := 23) (d_M_trigger 16 rfl) (by decide) (fun _ => ?_) (fun q => absurd q (of_decide_eq_false c_8))
      refine go_iconst (x := (0 : Int32)) (d_M_trigger 23 rfl) (by decide) ?_
      exact b_M_trigger_24 hl  (x1) (x2) (x3) (x4) ((0 : Int32)) (r_5.2.2.2) h
abbrev M_M_begin : go_M := (c_M_begin, 1, (some .int), RM, [], rmD 1 0)
def f_M_begin_15  (y1 : Int32) (v : go_V) : Option go_R := bd (f_M_throwing y1 (0 : Int32) (0 : Int32) v) (fun r_1 => nt r_1 (br (decide (r_1.2.1 = 0)) (gd (go_in (r_1.2.2.2 100 10) 12) (ln (u2 r_1.2.2.2 107 (r_1.2.2.2 100 10).toNatClampNeg (1 : Int32)) (fun v_6 => gd (go_in (v_6 100 10) 12) (ln (u2 v_6 110 (v_6 100 10).toNatClampNeg (v_6 100 1)) (fun v_8 => ln (u2 v_8 100 10 ((v_8 100 10) + (1 : Int32))) (fun v_9 => some (0, ((v_9 100 10) - (1 : Int32)), 0, v_9))))))) (some (0, (0 : Int32), 0, r_1.2.2.2))))
set_option maxHeartbeats 4000000 in
set_option maxRecDepth 100000 in
theorem b_M_begin_15 {l : Launch} {G : go_G} {ad : Nat → Nat} (hl : l.stackTraces = false) {r : go_R}  (y1 : Int32) (v : go_V) (h : f_M_begin_15  y1 v = some r) : Go l G M_M_begin go_Ex0 (go_E G ad 1 r 0 0) ad v [(0, .ref (ad (100)))] 15 [.int y1, .ref (ad (100))] 0 0 := by
  unfold f_M_begin_15 at h
  refine go_iconst (x := (0 : Int32)) (d_M_begin 15 rfl) (by decide) ?_
  refine go_iconst (x := (0 : Int32)) (d_M_begin 16 rfl) (by decide) ?_
  obtain ⟨r_1, o_2, h⟩ := bd_some h
  obtain ⟨z_3, h⟩ := nt_some h
  refine go_cV (As := [.int y1, .int ((0 : Int32)), .int ((0 : Int32))]) (rest := []) (st2 := [.int (r_1.2.1)]) (c2 := 0) (s2 := 0) rfl rfl rfl rfl (Ca_M_throwing hl o_2)  (d_M_begin 17 rfl) cw_M_84 ⟨w_643, w_18⟩ rfl (by decide) rfl ⟨by decide, by decide⟩ rfl (Nat.le_of_ble_eq_true rfl) ⟨by decide, by decide⟩ (fun _ => ?_) (fun q => absurd z_3 q)
  rcases br_some h with ⟨c_4, h⟩ | ⟨c_4, h⟩
  · refine go_if_eq (tgt := 25) (d_M_begin 20 rfl) (by decide) (fun _ => ?_) (fun q => absurd (of_decide_eq_true c_4) q)
    refine go_aload_n (d_M_begin 25 rfl) rfl rfl ?_
    refine go_getR (d_M_begin 26 rfl) fl_M_28 rfl rfl ?_
    show Go _ _ _ _ _ _ _ _ _ (.ref (ad (107)) :: []) _ _
    refine go_aload_n (d_M_begin 29 rfl) rfl rfl ?_
    refine go_getI (d_M_begin 30 rfl) fl_M_70 rfl rfl ?_
    refine go_iconst (x := (1 : Int32)) (d_M_begin 33 rfl) (by decide) ?_
    obtain ⟨g_5, h⟩ := gd_some h
    obtain ⟨v_6, ev_6, h⟩ := ln_some h
    refine go_zast (y := (1 : Int32)) (d_M_begin 34 rfl) rfl g_5 (by decide) ?_
    rw [← ev_6]
    refine go_aload_n (d_M_begin 35 rfl) rfl rfl ?_
    refine go_getR (d_M_begin 36 rfl) fl_M_38 rfl rfl ?_
    show Go _ _ _ _ _ _ _ _ _ (.ref (ad (110)) :: []) _ _
    refine go_aload_n (d_M_begin 39 rfl) rfl rfl ?_
    refine go_getI (d_M_begin 40 rfl) fl_M_70 rfl rfl ?_
    refine go_aload_n (d_M_begin 43 rfl) rfl rfl ?_
    refine go_getI (d_M_begin 44 rfl) fl_M_95 rfl rfl ?_
    obtain ⟨g_7, h⟩ := gd_some h
    obtain ⟨v_8, ev_8, h⟩ := ln_some h
    refine go_iast (y := (v_6 100 1)) (d_M_begin 47 rfl) rfl g_7 ?_
    rw [← ev_8]
    refine go_aload_n (d_M_begin 48 rfl) rfl rfl ?_
    refine go_dup (d_M_begin 49 rfl) rfl ?_
    refine go_getI (d_M_begin 50 rfl) fl_M_70 rfl rfl ?_
    refine go_iconst (x := (1 : Int32)) (d_M_begin 53 rfl) (by decide) ?_
    refine go_iadd (d_M_begin 54 rfl) ?_
    obtain ⟨v_9, ev_9, h⟩ := ln_some h
    refine go_putI (x := ((v_8 100 10) + (1 : Int32))) (d_M_begin 55 rfl) fp_M_70 rfl rfl rfl rfl ?_
    rw [← ev_9]
    refine go_aload_n (d_M_begin 58 rfl) rfl rfl ?_
    refine go_getI (d_M_begin 59 rfl) fl_M_70 rfl rfl ?_
    refine go_iconst (x := (1 : Int32)) (d_M_begin 62 rfl) (by decide) ?_
    refine go_isub (d_M_begin 63 rfl) ?_
    exact go_iret (d_M_begin 64 rfl) rfl rfl (Option.some.inj h) (by decide) (by decide)
  · refine go_if_eq (tgt := 25) (d_M_begin 20 rfl) (by decide) (fun q => absurd q (of_decide_eq_false c_4)) (fun _ => ?_)
    refine go_iconst (x := (0 : Int32)) (d_M_begin 23 rfl) (by decide) ?_
    exact go_iret (d_M_begin 24 rfl) rfl rfl (Option.some.inj h) (by decide) (by decide)
def f_M_begin  (v : go_V) : Option go_R := br (decide ((v 100 10) = (12 : Int32))) (f_M_begin_15  ((1 : Int32)) (v)) (f_M_begin_15  ((0 : Int32)) (v))
set_option maxHeartbeats 4000000 in
set_option maxRecDepth 100000 in
theorem Ca_M_begin {l : Launch} {G : go_G} {ad : Nat → Nat} (hl : l.stackTraces = false) {r : go_R}  {v : go_V} (h : f_M_begin  v = some r) : Ca l G y_M_begin (.code y_M_begin c_M_begin 1 (some .int) :: go_TT) (rmD 1 0) 1 ad [.ref (ad (100))] v r := by
  unfold f_M_begin at h
  refine go_body (own := RM) (by decide) rfl (Nat.le_of_ble_eq_true rfl) ?_
  show Go l G M_M_begin go_Ex0 (go_E G ad 1 r 0 0) ad v [(0, .ref (ad (100)))] 0 [] 0 0
  refine go_aload_n (d_M_begin 0 rfl) rfl rfl ?_
  refine go_aload_n (d_M_begin 1 rfl) rfl rfl ?_
  refine go_getI (d_M_begin 2 rfl) fl_M_70 rfl rfl ?_
  refine go_bipush (x := (12 : Int32)) (d_M_begin 5 rfl) (by decide) ?_
  rcases br_some h with ⟨c_1, h⟩ | ⟨c_1, h⟩
  · refine go_icmp_ne (tgt := 14) (d_M_begin 7 rfl) (by decide) (fun q => absurd (of_decide_eq_true c_1) q) (fun _ => ?_)
    refine go_iconst (x := (1 : Int32)) (d_M_begin 10 rfl) (by decide) ?_
    refine go_goto (tgt := 15) (d_M_begin 11 rfl) (by decide) ?_
    exact b_M_begin_15 hl  ((1 : Int32)) (v) h
  · refine go_icmp_ne (tgt := 14) (d_M_begin 7 rfl) (by decide) (fun _ => ?_) (fun q => absurd q (of_decide_eq_false c_1))
    refine go_iconst (x := (0 : Int32)) (d_M_begin 14 rfl) (by decide) ?_
    exact b_M_begin_15 hl  ((0 : Int32)) (v) h
abbrev M_M_free : go_M := (c_M_free, 2, none, RM, [], rmD 0 0)
def f_M_free (x1 : Int32) (v : go_V) : Option go_R := gd (go_in x1 40) (ln (u2 v 116 x1.toNatClampNeg (0 : Int32)) (fun v_2 => gd (go_in x1 40) (ln (u2 v_2 117 x1.toNatClampNeg ((-1) : Int32)) (fun v_4 => gd (go_in x1 40) (ln (u2 v_4 118 x1.toNatClampNeg ((-1) : Int32)) (fun v_6 => some (0, 0, 0, v_6)))))))
set_option maxHeartbeats 4000000 in
set_option maxRecDepth 100000 in
theorem Ca_M_free {l : Launch} {G : go_G} {ad : Nat → Nat} (hl : l.stackTraces = false) {r : go_R} {x1 : Int32} {v : go_V} (h : f_M_free x1 v = some r) : Ca l G y_M_free (.code y_M_free c_M_free 2 none :: go_TT) (rmD 0 0) 0 ad [.ref (ad (100)), .int x1] v r := by
  unfold f_M_free at h
  refine go_body (own := RM) (by decide) rfl (Nat.le_of_ble_eq_true rfl) ?_
  show Go l G M_M_free go_Ex0 (go_E G ad 0 r 0 0) ad v [(0, .ref (ad (100))), (1, .int x1)] 0 [] 0 0
  refine go_aload_n (d_M_free 0 rfl) rfl rfl ?_
  refine go_getR (d_M_free 1 rfl) fl_M_56 rfl rfl ?_
  show Go _ _ _ _ _ _ _ _ _ (.ref (ad (116)) :: []) _ _
  refine go_iload_n (d_M_free 4 rfl) rfl rfl ?_
  refine go_iconst (x := (0 : Int32)) (d_M_free 5 rfl) (by decide) ?_
  obtain ⟨g_1, h⟩ := gd_some h
  obtain ⟨v_2, ev_2, h⟩ := ln_some h
  refine go_iast (y := (0 : Int32)) (d_M_free 6 rfl) rfl g_1 ?_
  rw [← ev_2]
  refine go_aload_n (d_M_free 7 rfl) rfl rfl ?_
  refine go_getR (d_M_free 8 rfl) fl_M_59 rfl rfl ?_
  show Go _ _ _ _ _ _ _ _ _ (.ref (ad (117)) :: []) _ _
  refine go_iload_n (d_M_free 11 rfl) rfl rfl ?_
  refine go_iconst (x := ((-1) : Int32)) (d_M_free 12 rfl) (by decide) ?_
  obtain ⟨g_3, h⟩ := gd_some h
  obtain ⟨v_4, ev_4, h⟩ := ln_some h
  refine go_iast (y := ((-1) : Int32)) (d_M_free 13 rfl) rfl g_3 ?_
  rw [← ev_4]
  refine go_aload_n (d_M_free 14 rfl) rfl rfl ?_
  refine go_getR (d_M_free 15 rfl) fl_M_62 rfl rfl ?_
  show Go _ _ _ _ _ _ _ _ _ (.ref (ad (118)) :: []) _ _
  refine go_iload_n (d_M_free 18 rfl) rfl rfl ?_
  refine go_iconst (x := ((-1) : Int32)) (d_M_free 19 rfl) (by decide) ?_
  obtain ⟨g_5, h⟩ := gd_some h
  obtain ⟨v_6, ev_6, h⟩ := ln_some h
  refine go_iast (y := ((-1) : Int32)) (d_M_free 20 rfl) rfl g_5 ?_
  rw [← ev_6]
  exact go_vret (d_M_free 21 rfl) rfl (Option.some.inj h) (by decide) (by decide)
abbrev M_M_isWith : go_M := (c_M_isWith, 3, (some .boolean), RM, [], rmD 0 0)
def f_M_isWith_23  (x1 : Int32) (x2 : Int32) (v : go_V) : Option go_R := some (0, (0 : Int32), 0, v)
set_option maxHeartbeats 4000000 in
set_option maxRecDepth 100000 in
theorem b_M_isWith_23 {l : Launch} {G : go_G} {ad : Nat → Nat} (hl : l.stackTraces = false) {r : go_R}  (x1 : Int32) (x2 : Int32) (v : go_V) (h : f_M_isWith_23  x1 x2 v = some r) : Go l G M_M_isWith go_Ex0 (go_E G ad 1 r 0 0) ad v [(0, .ref (ad (100))), (1, .int x1), (2, .int x2)] 23 [] 0 0 := by
  unfold f_M_isWith_23 at h
  refine go_iconst (x := (0 : Int32)) (d_M_isWith 23 rfl) (by decide) ?_
  exact go_iret (d_M_isWith 24 rfl) rfl (by decide) (Option.some.inj h) (by decide) (by decide)
def f_M_isWith (x1 : Int32) (x2 : Int32) (v : go_V) : Option go_R := gd (go_in x1 40) (br (decide ((v 116 x1.toNatClampNeg) = 0)) (f_M_isWith_23  (x1) (x2) (v)) (gd (go_in x1 40) (br (decide ((v 117 x1.toNatClampNeg) = x2)) (some (0, (1 : Int32), 0, v)) (f_M_isWith_23  (x1) (x2) (v)))))
set_option maxHeartbeats 4000000 in
set_option maxRecDepth 100000 in
theorem Ca_M_isWith {l : Launch} {G : go_G} {ad : Nat → Nat} (hl : l.stackTraces = false) {r : go_R} {x1 : Int32} {x2 : Int32} {v : go_V} (h : f_M_isWith x1 x2 v = some r) : Ca l G y_M_isWith (.code y_M_isWith c_M_isWith 3 (some .boolean) :: go_TT) (rmD 0 0) 1 ad [.ref (ad (100)), .int x1, .int x2] v r := by
  unfold f_M_isWith at h
  refine go_body (own := RM) (by decide) rfl (Nat.le_of_ble_eq_true rfl) ?_
  show Go l G M_M_isWith go_Ex0 (go_E G ad 1 r 0 0) ad v [(0, .ref (ad (100))), (1, .int x1), (2, .int x2)] 0 [] 0 0
  refine go_aload_n (d_M_isWith 0 rfl) rfl rfl ?_
  refine go_getR (d_M_isWith 1 rfl) fl_M_56 rfl rfl ?_
  show Go _ _ _ _ _ _ _ _ _ (.ref (ad (116)) :: []) _ _
  refine go_iload_n (d_M_isWith 4 rfl) rfl rfl ?_
  obtain ⟨g_1, h⟩ := gd_some h
  refine go_iald (d_M_isWith 5 rfl) rfl g_1 ?_
  rcases br_some h with ⟨c_2, h⟩ | ⟨c_2, h⟩
  · refine go_if_eq (tgt := 23) (d_M_isWith 6 rfl) (by decide) (fun _ => ?_) (fun q => absurd (of_decide_eq_true c_2) q)
    exact b_M_isWith_23 hl  (x1) (x2) (v) h
  · refine go_if_eq (tgt := 23) (d_M_isWith 6 rfl) (by decide) (fun q => absurd q (of_decide_eq_false c_2)) (fun _ => ?_)
    refine go_aload_n (d_M_isWith 9 rfl) rfl rfl ?_
    refine go_getR (d_M_isWith 10 rfl) fl_M_59 rfl rfl ?_
    show Go _ _ _ _ _ _ _ _ _ (.ref (ad (117)) :: []) _ _
    refine go_iload_n (d_M_isWith 13 rfl) rfl rfl ?_
    obtain ⟨g_3, h⟩ := gd_some h
    refine go_iald (d_M_isWith 14 rfl) rfl g_3 ?_
    refine go_iload_n (d_M_isWith 15 rfl) rfl rfl ?_
    rcases br_some h with ⟨c_4, h⟩ | ⟨c_4, h⟩
    · refine go_icmp_ne (tgt := 23) (d_M_isWith 16 rfl) (by decide) (fun q => absurd (of_decide_eq_true c_4) q) (fun _ => ?_)
      refine go_iconst (x := (1 : Int32)) (d_M_isWith 19 rfl) (by decide) ?_
      refine go_goto (tgt := 24) (d_M_isWith 20 rfl) (by decide) ?_
      exact go_iret (d_M_isWith 24 rfl) rfl (by decide) (Option.some.inj h) (by decide) (by decide)
    · refine go_icmp_ne (tgt := 23) (d_M_isWith 16 rfl) (by decide) (fun _ => ?_) (fun q => absurd q (of_decide_eq_false c_4))
      exact b_M_isWith_23 hl  (x1) (x2) (v) h
abbrev M_M_close : go_M := (c_M_close, 3, none, RM, [], rmD 3 0)
def f_M_close_58 (rec36 : Int32 → Int32 → go_V → Option go_R) (x1 : Int32) (x2 : Int32) (v : go_V) : Option go_R := rec36 (x1) ((x2 + 1)) (v)
set_option maxHeartbeats 4000000 in
set_option maxRecDepth 100000 in
theorem b_M_close_58 {l : Launch} {G : go_G} {ad : Nat → Nat} (hl : l.stackTraces = false) {r : go_R} (rec36 : Int32 → Int32 → go_V → Option go_R) (hrec36 : ∀ (x1 : Int32) (x2 : Int32) (v : go_V), rec36 x1 x2 v = some r → Go l G M_M_close go_Ex0 (go_E G ad 0 r 0 0) ad v [(0, .ref (ad (100))), (1, .int x1), (2, .int x2)] 36 [] 0 0) (x1 : Int32) (x2 : Int32) (v : go_V) (h : f_M_close_58 rec36 x1 x2 v = some r) : Go l G M_M_close go_Ex0 (go_E G ad 0 r 0 0) ad v [(0, .ref (ad (100))), (1, .int x1), (2, .int x2)] 58 [] 0 0 := by
  unfold f_M_close_58 at h
  refine go_iinc (y := (x2 + 1)) (lv' := [(0, .ref (ad (100))), (1, .int x1), (2, .int ((x2 + 1)))]) (d_M_close 58 rfl) rfl rfl (by decide) rfl ?_
  refine go_goto (tgt := 36) (d_M_close 61 rfl) (by decide) ?_
  exact hrec36 (x1) ((x2 + 1)) (v) h
def f_M_close_36  : Nat → Int32 → Int32 → go_V → Option go_R
  | 0, _, _, _ => none
  | n + 1, x1, x2, v => br (decide ((v 100 19) ≤ x2)) (some (0, 0, 0, v)) (bd (f_M_isWith x2 x1 v) (fun r_2 => nt r_2 (br (decide (r_2.2.1 = 0)) (f_M_close_58 (f_M_close_36 n) (x1) (x2) (r_2.2.2.2)) (bd (f_M_free x2 r_2.2.2.2) (fun r_6 => nt r_6 (f_M_close_58 (f_M_close_36 n) (x1) (x2) (r_6.2.2.2)))))))
set_option maxHeartbeats 4000000 in
set_option maxRecDepth 100000 in
theorem b_M_close_36 {l : Launch} {G : go_G} {ad : Nat → Nat} (hl : l.stackTraces = false) {r : go_R}  : ∀ (n : Nat) (x1 : Int32) (x2 : Int32) (v : go_V), f_M_close_36  n x1 x2 v = some r → Go l G M_M_close go_Ex0 (go_E G ad 0 r 0 0) ad v [(0, .ref (ad (100))), (1, .int x1), (2, .int x2)] 36 [] 0 0 := by
  intro n
  induction n with
  | zero =>
    intro x1 x2 v h
    cases h
  | succ n ih =>
    intro x1 x2 v h
    rw [f_M_close_36] at h
    refine go_iload_n (d_M_close 36 rfl) rfl rfl ?_
    refine go_aload_n (d_M_close 37 rfl) rfl rfl ?_
    refine go_getI (d_M_close 38 rfl) fl_M_81 rfl rfl ?_
    rcases br_some h with ⟨c_1, h⟩ | ⟨c_1, h⟩
    · refine go_icmp_ge (tgt := 64) (d_M_close 41 rfl) (by decide) (fun _ => ?_) (fun q => absurd (of_decide_eq_true c_1) q)
      exact go_vret (d_M_close 64 rfl) rfl (Option.some.inj h) (by decide) (by decide)
    · refine go_icmp_ge (tgt := 64) (d_M_close 41 rfl) (by decide) (fun q => absurd q (of_decide_eq_false c_1)) (fun _ => ?_)
      refine go_aload_n (d_M_close 44 rfl) rfl rfl ?_
      refine go_iload_n (d_M_close 45 rfl) rfl rfl ?_
      refine go_iload_n (d_M_close 46 rfl) rfl rfl ?_
      obtain ⟨r_2, o_3, h⟩ := bd_some h
      obtain ⟨z_4, h⟩ := nt_some h
      refine go_cV (As := [.int x2, .int x1]) (rest := []) (st2 := [.int (r_2.2.1)]) (c2 := 0) (s2 := 0) rfl rfl rfl rfl (Ca_M_isWith hl o_3)  (d_M_close 47 rfl) cw_M_101 ⟨w_672, w_21⟩ rfl (by decide) rfl ⟨by decide, by decide⟩ rfl (Nat.le_of_ble_eq_true rfl) ⟨by decide, by decide⟩ (fun _ => ?_) (fun q => absurd z_4 q)
      rcases br_some h with ⟨c_5, h⟩ | ⟨c_5, h⟩
      · refine go_if_eq (tgt := 58) (d_M_close 50 rfl) (by decide) (fun _ => ?_) (fun q => absurd (of_decide_eq_true c_5) q)
        exact b_M_close_58 hl _ ih (x1) (x2) (r_2.2.2.2) h
      · refine go_if_eq (tgt := 58) (d_M_close 50 rfl) (by decide) (fun q => absurd q (of_decide_eq_false c_5)) (fun _ => ?_)
        refine go_aload_n (d_M_close 53 rfl) rfl rfl ?_
        refine go_iload_n (d_M_close 54 rfl) rfl rfl ?_
        obtain ⟨r_6, o_7, h⟩ := bd_some h
        obtain ⟨z_8, h⟩ := nt_some h
        refine go_cV (As := [.int x2]) (rest := []) (st2 := []) (c2 := 0) (s2 := 0) rfl rfl rfl rfl (Ca_M_free hl o_7)  (d_M_close 55 rfl) cw_M_105 ⟨w_676, w_22⟩ rfl (by decide) rfl ⟨by decide, by decide⟩ rfl (Nat.le_of_ble_eq_true rfl) ⟨by decide, by decide⟩ (fun _ => ?_) (fun q => absurd z_8 q)
        exact b_M_close_58 hl _ ih (x1) (x2) (r_6.2.2.2) h
def f_M_close_14  (x1 : Int32) (y1 : Int32) (v : go_V) : Option go_R := bd (f_M_isClosed x1 v) (fun r_1 => nt r_1 (bd (f_M_throwing y1 r_1.2.1 (0 : Int32) r_1.2.2.2) (fun r_4 => nt r_4 (br (decide (r_4.2.1 = 0)) (gd (go_in x1 12) (ln (u2 r_4.2.2.2 107 x1.toNatClampNeg (0 : Int32)) (fun v_9 => f_M_close_36  FU (x1) ((0 : Int32)) (v_9)))) (some (0, 0, 0, r_4.2.2.2))))))
set_option maxHeartbeats 4000000 in
set_option maxRecDepth 100000 in
theorem b_M_close_14 {l : Launch} {G : go_G} {ad : Nat → Nat} (hl : l.stackTraces = false) {r : go_R}  (x1 : Int32) (y1 : Int32) (v : go_V) (h : f_M_close_14  x1 y1 v = some r) : Go l G M_M_close go_Ex0 (go_E G ad 0 r 0 0) ad v [(0, .ref (ad (100))), (1, .int x1)] 14 [.int y1, .ref (ad (100))] 0 0 := by
  unfold f_M_close_14 at h
  refine go_aload_n (d_M_close 14 rfl) rfl rfl ?_
  refine go_iload_n (d_M_close 15 rfl) rfl rfl ?_
  obtain ⟨r_1, o_2, h⟩ := bd_some h
  obtain ⟨z_3, h⟩ := nt_some h
  refine go_cV (As := [.int x1]) (rest := [.int y1, .ref (ad (100))]) (st2 := [.int (r_1.2.1), .int y1, .ref (ad (100))]) (c2 := 0) (s2 := 0) rfl rfl rfl rfl (Ca_M_isClosed hl o_2)  (d_M_close 16 rfl) cw_M_98 ⟨w_668, w_20⟩ rfl (by decide) rfl ⟨by decide, by decide⟩ rfl (Nat.le_of_ble_eq_true rfl) ⟨by decide, by decide⟩ (fun _ => ?_) (fun q => absurd z_3 q)
  refine go_iconst (x := (0 : Int32)) (d_M_close 19 rfl) (by decide) ?_
  obtain ⟨r_4, o_5, h⟩ := bd_some h
  obtain ⟨z_6, h⟩ := nt_some h
  refine go_cV (As := [.int y1, .int (r_1.2.1), .int ((0 : Int32))]) (rest := []) (st2 := [.int (r_4.2.1)]) (c2 := 0) (s2 := 0) rfl rfl rfl rfl (Ca_M_throwing hl o_5)  (d_M_close 20 rfl) cw_M_84 ⟨w_643, w_18⟩ rfl (by decide) rfl ⟨by decide, by decide⟩ rfl (Nat.le_of_ble_eq_true rfl) ⟨by decide, by decide⟩ (fun _ => ?_) (fun q => absurd z_6 q)
  rcases br_some h with ⟨c_7, h⟩ | ⟨c_7, h⟩
  · refine go_if_eq (tgt := 27) (d_M_close 23 rfl) (by decide) (fun _ => ?_) (fun q => absurd (of_decide_eq_true c_7) q)
    refine go_aload_n (d_M_close 27 rfl) rfl rfl ?_
    refine go_getR (d_M_close 28 rfl) fl_M_28 rfl rfl ?_
    show Go _ _ _ _ _ _ _ _ _ (.ref (ad (107)) :: []) _ _
    refine go_iload_n (d_M_close 31 rfl) rfl rfl ?_
    refine go_iconst (x := (0 : Int32)) (d_M_close 32 rfl) (by decide) ?_
    obtain ⟨g_8, h⟩ := gd_some h
    obtain ⟨v_9, ev_9, h⟩ := ln_some h
    refine go_zast (y := (0 : Int32)) (d_M_close 33 rfl) rfl g_8 (by decide) ?_
    rw [← ev_9]
    refine go_iconst (x := (0 : Int32)) (d_M_close 34 rfl) (by decide) ?_
    refine go_istore_n (lv' := [(0, .ref (ad (100))), (1, .int x1), (2, .int ((0 : Int32)))]) (d_M_close 35 rfl) rfl (by decide) rfl ?_
    exact b_M_close_36 hl  FU (x1) ((0 : Int32)) (v_9) h
  · refine go_if_eq (tgt := 27) (d_M_close 23 rfl) (by decide) (fun q => absurd q (of_decide_eq_false c_7)) (fun _ => ?_)
    exact go_vret (d_M_close 26 rfl) rfl (Option.some.inj h) (by decide) (by decide)
def f_M_close (x1 : Int32) (v : go_V) : Option go_R := bd (f_M_isIncident x1 v) (fun r_1 => nt r_1 (br (decide (r_1.2.1 = 0)) (f_M_close_14  (x1) ((1 : Int32)) (r_1.2.2.2)) (f_M_close_14  (x1) ((0 : Int32)) (r_1.2.2.2))))
set_option maxHeartbeats 4000000 in
set_option maxRecDepth 100000 in
theorem Ca_M_close {l : Launch} {G : go_G} {ad : Nat → Nat} (hl : l.stackTraces = false) {r : go_R} {x1 : Int32} {v : go_V} (h : f_M_close x1 v = some r) : Ca l G y_M_close (.code y_M_close c_M_close 3 none :: go_TT) (rmD 3 0) 0 ad [.ref (ad (100)), .int x1] v r := by
  unfold f_M_close at h
  refine go_body (own := RM) (by decide) rfl (Nat.le_of_ble_eq_true rfl) ?_
  show Go l G M_M_close go_Ex0 (go_E G ad 0 r 0 0) ad v [(0, .ref (ad (100))), (1, .int x1)] 0 [] 0 0
  refine go_aload_n (d_M_close 0 rfl) rfl rfl ?_
  refine go_aload_n (d_M_close 1 rfl) rfl rfl ?_
  refine go_iload_n (d_M_close 2 rfl) rfl rfl ?_
  obtain ⟨r_1, o_2, h⟩ := bd_some h
  obtain ⟨z_3, h⟩ := nt_some h
  refine go_cV (As := [.int x1]) (rest := [.ref (ad (100))]) (st2 := [.int (r_1.2.1), .ref (ad (100))]) (c2 := 0) (s2 := 0) rfl rfl rfl rfl (Ca_M_isIncident hl o_2)  (d_M_close 3 rfl) cw_M_77 ⟨w_664, w_19⟩ rfl (by decide) rfl ⟨by decide, by decide⟩ rfl (Nat.le_of_ble_eq_true rfl) ⟨by decide, by decide⟩ (fun _ => ?_) (fun q => absurd z_3 q)
  rcases br_some h with ⟨c_4, h⟩ | ⟨c_4, h⟩
  · refine go_if_ne (tgt := 13) (d_M_close 6 rfl) (by decide) (fun q => absurd (of_decide_eq_true c_4) q) (fun _ => ?_)
    refine go_iconst (x := (1 : Int32)) (d_M_close 9 rfl) (by decide) ?_
    refine go_goto (tgt := 14) (d_M_close 10 rfl) (by decide) ?_
    exact b_M_close_14 hl  (x1) ((1 : Int32)) (r_1.2.2.2) h
  · refine go_if_ne (tgt := 13) (d_M_close 6 rfl) (by decide) (fun _ => ?_) (fun q => absurd q (of_decide_eq_false c_4))
    refine go_iconst (x := (0 : Int32)) (d_M_close 13 rfl) (by decide) ?_
    exact b_M_close_14 hl  (x1) ((0 : Int32)) (r_1.2.2.2) h
abbrev M_M_act : go_M := (c_M_act, 4, (some .int), RM, [], rmD 0 0)
def f_M_act_129  (x1 : Int32) (x2 : Int32) (x3 : Int32) (v : go_V) : Option go_R := some (0, (1 : Int32), 0, v)
set_option maxHeartbeats 4000000 in
set_option maxRecDepth 100000 in
theorem b_M_act_129 {l : Launch} {G : go_G} {ad : Nat → Nat} (hl : l.stackTraces = false) {r : go_R}  (x1 : Int32) (x2 : Int32) (x3 : Int32) (v : go_V) (h : f_M_act_129  x1 x2 x3 v = some r) : Go l G M_M_act go_Ex0 (go_E G ad 1 r 0 0) ad v [(0, .ref (ad (100))), (1, .int x1), (2, .int x2), (3, .int x3)] 129 [] 0 0 := by
  unfold f_M_act_129 at h
  refine go_iconst (x := (1 : Int32)) (d_M_act 129 rfl) (by decide) ?_
  exact go_iret (d_M_act 130 rfl) rfl rfl (Option.some.inj h) (by decide) (by decide)
def f_M_act_88  (x1 : Int32) (x2 : Int32) (y0 : Int32) (v : go_V) : Option go_R := gd (go_in x2 12) (br (decide (y0 ≤ (v 108 x2.toNatClampNeg))) (ln (u2 v 100 26 ((v 100 26) + (1 : Int32))) (fun v_3 => f_M_act_129  (x1) (x2) (y0) (v_3))) (gd (go_in x2 12) (ln (u2 v 108 x2.toNatClampNeg y0) (fun v_5 => gd (go_in x2 12) (gd (go_in x2 12) (ln (u2 v_5 112 x2.toNatClampNeg ((v_5 112 x2.toNatClampNeg) + (1 : Int32))) (fun v_8 => f_M_act_129  (x1) (x2) (y0) (v_8))))))))
set_option maxHeartbeats 4000000 in
set_option maxRecDepth 100000 in
theorem b_M_act_88 {l : Launch} {G : go_G} {ad : Nat → Nat} (hl : l.stackTraces = false) {r : go_R}  (x1 : Int32) (x2 : Int32) (y0 : Int32) (v : go_V) (h : f_M_act_88  x1 x2 y0 v = some r) : Go l G M_M_act go_Ex0 (go_E G ad 1 r 0 0) ad v [(0, .ref (ad (100))), (1, .int x1), (2, .int x2)] 88 [.int y0] 0 0 := by
  unfold f_M_act_88 at h
  refine go_istore_n (lv' := [(0, .ref (ad (100))), (1, .int x1), (2, .int x2), (3, .int y0)]) (d_M_act 88 rfl) rfl (by decide) rfl ?_
  refine go_iload_n (d_M_act 89 rfl) rfl rfl ?_
  refine go_aload_n (d_M_act 90 rfl) rfl rfl ?_
  refine go_getR (d_M_act 91 rfl) fl_M_32 rfl rfl ?_
  show Go _ _ _ _ _ _ _ _ _ (.ref (ad (108)) :: .int y0 :: []) _ _
  refine go_iload_n (d_M_act 94 rfl) rfl rfl ?_
  obtain ⟨g_1, h⟩ := gd_some h
  refine go_iald (d_M_act 95 rfl) rfl g_1 ?_
  rcases br_some h with ⟨c_2, h⟩ | ⟨c_2, h⟩
  · refine go_icmp_le (tgt := 119) (d_M_act 96 rfl) (by decide) (fun _ => ?_) (fun q => absurd (of_decide_eq_true c_2) q)
    refine go_aload_n (d_M_act 119 rfl) rfl rfl ?_
    refine go_dup (d_M_act 120 rfl) rfl ?_
    refine go_getI (d_M_act 121 rfl) fl_M_109 rfl rfl ?_
    refine go_iconst (x := (1 : Int32)) (d_M_act 124 rfl) (by decide) ?_
    refine go_iadd (d_M_act 125 rfl) ?_
    obtain ⟨v_3, ev_3, h⟩ := ln_some h
    refine go_putI (x := ((v 100 26) + (1 : Int32))) (d_M_act 126 rfl) fp_M_109 rfl rfl rfl rfl ?_
    rw [← ev_3]
    exact b_M_act_129 hl  (x1) (x2) (y0) (v_3) h
  · refine go_icmp_le (tgt := 119) (d_M_act 96 rfl) (by decide) (fun q => absurd q (of_decide_eq_false c_2)) (fun _ => ?_)
    refine go_aload_n (d_M_act 99 rfl) rfl rfl ?_
    refine go_getR (d_M_act 100 rfl) fl_M_32 rfl rfl ?_
    show Go _ _ _ _ _ _ _ _ _ (.ref (ad (108)) :: []) _ _
    refine go_iload_n (d_M_act 103 rfl) rfl rfl ?_
    refine go_iload_n (d_M_act 104 rfl) rfl rfl ?_
    obtain ⟨g_4, h⟩ := gd_some h
    obtain ⟨v_5, ev_5, h⟩ := ln_some h
    refine go_iast (y := y0) (d_M_act 105 rfl) rfl g_4 ?_
    rw [← ev_5]
    refine go_aload_n (d_M_act 106 rfl) rfl rfl ?_
    refine go_getR (d_M_act 107 rfl) fl_M_44 rfl rfl ?_
    show Go _ _ _ _ _ _ _ _ _ (.ref (ad (112)) :: []) _ _
    refine go_iload_n (d_M_act 110 rfl) rfl rfl ?_
    refine go_dup2 (d_M_act 111 rfl) rfl rfl ?_
    obtain ⟨g_6, h⟩ := gd_some h
    refine go_iald (d_M_act 112 rfl) rfl g_6 ?_
    refine go_iconst (x := (1 : Int32)) (d_M_act 113 rfl) (by decide) ?_
    refine go_iadd (d_M_act 114 rfl) ?_
    obtain ⟨g_7, h⟩ := gd_some h
    obtain ⟨v_8, ev_8, h⟩ := ln_some h
    refine go_iast (y := ((v_5 112 x2.toNatClampNeg) + (1 : Int32))) (d_M_act 115 rfl) rfl g_7 ?_
    rw [← ev_8]
    refine go_goto (tgt := 129) (d_M_act 116 rfl) (by decide) ?_
    exact b_M_act_129 hl  (x1) (x2) (y0) (v_8) h
def f_M_act (x1 : Int32) (x2 : Int32) (v : go_V) : Option go_R := gd (go_in (((20 : Int32) * x2) + x1) 240) (gd (go_in x1 20) (br (decide ((v 105 x1.toNatClampNeg) ≤ ((v 100 1) - (v 114 (((20 : Int32) * x2) + x1).toNatClampNeg)))) (gd (go_in (((20 : Int32) * x2) + x1) 240) (ln (u2 v 114 (((20 : Int32) * x2) + x1).toNatClampNeg (v 100 1)) (fun v_5 => gd (go_in x1 20) (gd (go_in x1 20) (ln (u2 v_5 106 x1.toNatClampNeg ((v_5 106 x1.toNatClampNeg) + (1 : Int32))) (fun v_8 => gd (go_in x2 12) (gd (go_in x2 12) (ln (u2 v_8 111 x2.toNatClampNeg ((v_8 111 x2.toNatClampNeg) + (1 : Int32))) (fun v_11 => gd (go_in x1 20) (br (decide ((v_11 100 2) ≤ (v_11 104 x1.toNatClampNeg))) (f_M_act_88  (x1) (x2) ((v_11 100 2)) (v_11)) (gd (go_in x1 20) (f_M_act_88  (x1) (x2) ((v_11 104 x1.toNatClampNeg)) (v_11))))))))))))) (some (0, (0 : Int32), 0, v))))
set_option maxHeartbeats 4000000 in
set_option maxRecDepth 100000 in
theorem Ca_M_act {l : Launch} {G : go_G} {ad : Nat → Nat} (hl : l.stackTraces = false) {r : go_R} {x1 : Int32} {x2 : Int32} {v : go_V} (h : f_M_act x1 x2 v = some r) : Ca l G y_M_act (.code y_M_act c_M_act 4 (some .int) :: go_TT) (rmD 0 0) 1 ad [.ref (ad (100)), .int x1, .int x2] v r := by
  unfold f_M_act at h
  refine go_body (own := RM) (by decide) rfl (Nat.le_of_ble_eq_true rfl) ?_
  show Go l G M_M_act go_Ex0 (go_E G ad 1 r 0 0) ad v [(0, .ref (ad (100))), (1, .int x1), (2, .int x2)] 0 [] 0 0
  refine go_aload_n (d_M_act 0 rfl) rfl rfl ?_
  refine go_getI (d_M_act 1 rfl) fl_M_95 rfl rfl ?_
  refine go_aload_n (d_M_act 4 rfl) rfl rfl ?_
  refine go_getR (d_M_act 5 rfl) fl_M_50 rfl rfl ?_
  show Go _ _ _ _ _ _ _ _ _ (.ref (ad (114)) :: .int ((v 100 1)) :: []) _ _
  refine go_bipush (x := (20 : Int32)) (d_M_act 8 rfl) (by decide) ?_
  refine go_iload_n (d_M_act 10 rfl) rfl rfl ?_
  refine go_imul (d_M_act 11 rfl) ?_
  refine go_iload_n (d_M_act 12 rfl) rfl rfl ?_
  refine go_iadd (d_M_act 13 rfl) ?_
  obtain ⟨g_1, h⟩ := gd_some h
  refine go_iald (d_M_act 14 rfl) rfl g_1 ?_
  refine go_isub (d_M_act 15 rfl) ?_
  refine go_aload_n (d_M_act 16 rfl) rfl rfl ?_
  refine go_getR (d_M_act 17 rfl) fl_M_22 rfl rfl ?_
  show Go _ _ _ _ _ _ _ _ _ (.ref (ad (105)) :: .int (((v 100 1) - (v 114 (((20 : Int32) * x2) + x1).toNatClampNeg))) :: []) _ _
  refine go_iload_n (d_M_act 20 rfl) rfl rfl ?_
  obtain ⟨g_2, h⟩ := gd_some h
  refine go_iald (d_M_act 21 rfl) rfl g_2 ?_
  rcases br_some h with ⟨c_3, h⟩ | ⟨c_3, h⟩
  · refine go_icmp_ge (tgt := 27) (d_M_act 22 rfl) (by decide) (fun _ => ?_) (fun q => absurd (of_decide_eq_true c_3) q)
    refine go_aload_n (d_M_act 27 rfl) rfl rfl ?_
    refine go_getR (d_M_act 28 rfl) fl_M_50 rfl rfl ?_
    show Go _ _ _ _ _ _ _ _ _ (.ref (ad (114)) :: []) _ _
    refine go_bipush (x := (20 : Int32)) (d_M_act 31 rfl) (by decide) ?_
    refine go_iload_n (d_M_act 33 rfl) rfl rfl ?_
    refine go_imul (d_M_act 34 rfl) ?_
    refine go_iload_n (d_M_act 35 rfl) rfl rfl ?_
    refine go_iadd (d_M_act 36 rfl) ?_
    refine go_aload_n (d_M_act 37 rfl) rfl rfl ?_
    refine go_getI (d_M_act 38 rfl) fl_M_95 rfl rfl ?_
    obtain ⟨g_4, h⟩ := gd_some h
    obtain ⟨v_5, ev_5, h⟩ := ln_some h
    refine go_iast (y := (v 100 1)) (d_M_act 41 rfl) rfl g_4 ?_
    rw [← ev_5]
    refine go_aload_n (d_M_act 42 rfl) rfl rfl ?_
    refine go_getR (d_M_act 43 rfl) fl_M_25 rfl rfl ?_
    show Go _ _ _ _ _ _ _ _ _ (.ref (ad (106)) :: []) _ _
    refine go_iload_n (d_M_act 46 rfl) rfl rfl ?_
    refine go_dup2 (d_M_act 47 rfl) rfl rfl ?_
    obtain ⟨g_6, h⟩ := gd_some h
    refine go_iald (d_M_act 48 rfl) rfl g_6 ?_
    refine go_iconst (x := (1 : Int32)) (d_M_act 49 rfl) (by decide) ?_
    refine go_iadd (d_M_act 50 rfl) ?_
    obtain ⟨g_7, h⟩ := gd_some h
    obtain ⟨v_8, ev_8, h⟩ := ln_some h
    refine go_iast (y := ((v_5 106 x1.toNatClampNeg) + (1 : Int32))) (d_M_act 51 rfl) rfl g_7 ?_
    rw [← ev_8]
    refine go_aload_n (d_M_act 52 rfl) rfl rfl ?_
    refine go_getR (d_M_act 53 rfl) fl_M_41 rfl rfl ?_
    show Go _ _ _ _ _ _ _ _ _ (.ref (ad (111)) :: []) _ _
    refine go_iload_n (d_M_act 56 rfl) rfl rfl ?_
    refine go_dup2 (d_M_act 57 rfl) rfl rfl ?_
    obtain ⟨g_9, h⟩ := gd_some h
    refine go_iald (d_M_act 58 rfl) rfl g_9 ?_
    refine go_iconst (x := (1 : Int32)) (d_M_act 59 rfl) (by decide) ?_
    refine go_iadd (d_M_act 60 rfl) ?_
    obtain ⟨g_10, h⟩ := gd_some h
    obtain ⟨v_11, ev_11, h⟩ := ln_some h
    refine go_iast (y := ((v_8 111 x2.toNatClampNeg) + (1 : Int32))) (d_M_act 61 rfl) rfl g_10 ?_
    rw [← ev_11]
    refine go_aload_n (d_M_act 62 rfl) rfl rfl ?_
    refine go_getR (d_M_act 63 rfl) fl_M_19 rfl rfl ?_
    show Go _ _ _ _ _ _ _ _ _ (.ref (ad (104)) :: []) _ _
    refine go_iload_n (d_M_act 66 rfl) rfl rfl ?_
    obtain ⟨g_12, h⟩ := gd_some h
    refine go_iald (d_M_act 67 rfl) rfl g_12 ?_
    refine go_aload_n (d_M_act 68 rfl) rfl rfl ?_
    refine go_getI (d_M_act 69 rfl) fl_M_88 rfl rfl ?_
    rcases br_some h with ⟨c_13, h⟩ | ⟨c_13, h⟩
    · refine go_icmp_ge (tgt := 84) (d_M_act 72 rfl) (by decide) (fun _ => ?_) (fun q => absurd (of_decide_eq_true c_13) q)
      refine go_aload_n (d_M_act 84 rfl) rfl rfl ?_
      refine go_getI (d_M_act 85 rfl) fl_M_88 rfl rfl ?_
      exact b_M_act_88 hl  (x1) (x2) ((v_11 100 2)) (v_11) h
    · refine go_icmp_ge (tgt := 84) (d_M_act 72 rfl) (by decide) (fun q => absurd q (of_decide_eq_false c_13)) (fun _ => ?_)
      refine go_aload_n (d_M_act 75 rfl) rfl rfl ?_
      refine go_getR (d_M_act 76 rfl) fl_M_19 rfl rfl ?_
      show Go _ _ _ _ _ _ _ _ _ (.ref (ad (104)) :: []) _ _
      refine go_iload_n (d_M_act 79 rfl) rfl rfl ?_
      obtain ⟨g_14, h⟩ := gd_some h
      refine go_iald (d_M_act 80 rfl) rfl g_14 ?_
      refine go_goto (tgt := 88) (d_M_act 81 rfl) (by decide) ?_
      exact b_M_act_88 hl  (x1) (x2) ((v_11 104 x1.toNatClampNeg)) (v_11) h
  · refine go_icmp_ge (tgt := 27) (d_M_act 22 rfl) (by decide) (fun q => absurd q (of_decide_eq_false c_3)) (fun _ => ?_)
    refine go_iconst (x := (0 : Int32)) (d_M_act 25 rfl) (by decide) ?_
    exact go_iret (d_M_act 26 rfl) rfl rfl (Option.some.inj h) (by decide) (by decide)
abbrev M_M_all : go_M := (c_M_all, 6, (some .int), RM, [], rmD 1 0)
def f_M_all_50 (rec6 : Int32 → Int32 → Int32 → Int32 → Int32 → go_V → Option go_R) (x1 : Int32) (x2 : Int32) (x3 : Int32) (x4 : Int32) (x5 : Int32) (y0 : Int32) (y1 : Int32) (v : go_V) : Option go_R := rec6 (x1) (x2) (x3) ((y0 + y1)) ((x5 + 1)) (v)
set_option maxHeartbeats 4000000 in
set_option maxRecDepth 100000 in
theorem b_M_all_50 {l : Launch} {G : go_G} {ad : Nat → Nat} (hl : l.stackTraces = false) {r : go_R} (rec6 : Int32 → Int32 → Int32 → Int32 → Int32 → go_V → Option go_R) (hrec6 : ∀ (x1 : Int32) (x2 : Int32) (x3 : Int32) (x4 : Int32) (x5 : Int32) (v : go_V), rec6 x1 x2 x3 x4 x5 v = some r → Go l G M_M_all go_Ex0 (go_E G ad 1 r 0 0) ad v [(0, .ref (ad (100))), (1, .int x1), (2, .int x2), (3, .int x3), (4, .int x4), (5, .int x5)] 6 [] 0 0) (x1 : Int32) (x2 : Int32) (x3 : Int32) (x4 : Int32) (x5 : Int32) (y0 : Int32) (y1 : Int32) (v : go_V) (h : f_M_all_50 rec6 x1 x2 x3 x4 x5 y0 y1 v = some r) : Go l G M_M_all go_Ex0 (go_E G ad 1 r 0 0) ad v [(0, .ref (ad (100))), (1, .int x1), (2, .int x2), (3, .int x3), (4, .int x4), (5, .int x5)] 50 [.int y1, .int y0] 0 0 := by
  unfold f_M_all_50 at h
  refine go_iadd (d_M_all 50 rfl) ?_
  refine go_istore (lv' := [(0, .ref (ad (100))), (1, .int x1), (2, .int x2), (3, .int x3), (4, .int ((y0 + y1))), (5, .int x5)]) (d_M_all 51 rfl) (by decide) rfl ?_
  refine go_iinc (y := (x5 + 1)) (lv' := [(0, .ref (ad (100))), (1, .int x1), (2, .int x2), (3, .int x3), (4, .int ((y0 + y1))), (5, .int ((x5 + 1)))]) (d_M_all 53 rfl) rfl rfl (by decide) rfl ?_
  refine go_goto (tgt := 6) (d_M_all 56 rfl) (by decide) ?_
  exact hrec6 (x1) (x2) (x3) ((y0 + y1)) ((x5 + 1)) (v) h
def f_M_all_49 (rec6 : Int32 → Int32 → Int32 → Int32 → Int32 → go_V → Option go_R) (x1 : Int32) (x2 : Int32) (x3 : Int32) (x4 : Int32) (x5 : Int32) (y0 : Int32) (v : go_V) : Option go_R := f_M_all_50 (rec6) (x1) (x2) (x3) (x4) (x5) (y0) ((0 : Int32)) (v)
set_option maxHeartbeats 4000000 in
set_option maxRecDepth 100000 in
theorem b_M_all_49 {l : Launch} {G : go_G} {ad : Nat → Nat} (hl : l.stackTraces = false) {r : go_R} (rec6 : Int32 → Int32 → Int32 → Int32 → Int32 → go_V → Option go_R) (hrec6 : ∀ (x1 : Int32) (x2 : Int32) (x3 : Int32) (x4 : Int32) (x5 : Int32) (v : go_V), rec6 x1 x2 x3 x4 x5 v = some r → Go l G M_M_all go_Ex0 (go_E G ad 1 r 0 0) ad v [(0, .ref (ad (100))), (1, .int x1), (2, .int x2), (3, .int x3), (4, .int x4), (5, .int x5)] 6 [] 0 0) (x1 : Int32) (x2 : Int32) (x3 : Int32) (x4 : Int32) (x5 : Int32) (y0 : Int32) (v : go_V) (h : f_M_all_49 rec6 x1 x2 x3 x4 x5 y0 v = some r) : Go l G M_M_all go_Ex0 (go_E G ad 1 r 0 0) ad v [(0, .ref (ad (100))), (1, .int x1), (2, .int x2), (3, .int x3), (4, .int x4), (5, .int x5)] 49 [.int y0] 0 0 := by
  unfold f_M_all_49 at h
  refine go_iconst (x := (0 : Int32)) (d_M_all 49 rfl) (by decide) ?_
  exact b_M_all_50 hl _ hrec6 (x1) (x2) (x3) (x4) (x5) (y0) ((0 : Int32)) (v) h
def f_M_all_6  : Nat → Int32 → Int32 → Int32 → Int32 → Int32 → go_V → Option go_R
  | 0, _, _, _, _, _, _ => none
  | n + 1, x1, x2, x3, x4, x5, v => br (decide ((v 100 4) ≤ x5)) (some (0, x4, 0, v)) (gd (go_in x5 20) (br (decide ((v 102 x5.toNatClampNeg) = x1)) (gd (go_in x5 20) (br (decide ((v 103 x5.toNatClampNeg) = x2)) (bd (f_M_act x5 x3 v) (fun r_6 => nt r_6 (f_M_all_50 (f_M_all_6 n) (x1) (x2) (x3) (x4) (x5) (x4) (r_6.2.1) (r_6.2.2.2)))) (f_M_all_49 (f_M_all_6 n) (x1) (x2) (x3) (x4) (x5) (x4) (v)))) (f_M_all_49 (f_M_all_6 n) (x1) (x2) (x3) (x4) (x5) (x4) (v))))
set_option maxHeartbeats 4000000 in
set_option maxRecDepth 100000 in
theorem b_M_all_6 {l : Launch} {G : go_G} {ad : Nat → Nat} (hl : l.stackTraces = false) {r : go_R}  : ∀ (n : Nat) (x1 : Int32) (x2 : Int32) (x3 : Int32) (x4 : Int32) (x5 : Int32) (v : go_V), f_M_all_6  n x1 x2 x3 x4 x5 v = some r → Go l G M_M_all go_Ex0 (go_E G ad 1 r 0 0) ad v [(0, .ref (ad (100))), (1, .int x1), (2, .int x2), (3, .int x3), (4, .int x4), (5, .int x5)] 6 [] 0 0 := by
  intro n
  induction n with
  | zero =>
    intro x1 x2 x3 x4 x5 v h
    cases h
  | succ n ih =>
    intro x1 x2 x3 x4 x5 v h
    rw [f_M_all_6] at h
    refine go_iload (d_M_all 6 rfl) rfl ?_
    refine go_aload_n (d_M_all 8 rfl) rfl rfl ?_
    refine go_getI (d_M_all 9 rfl) fl_M_92 rfl rfl ?_
    rcases br_some h with ⟨c_1, h⟩ | ⟨c_1, h⟩
    · refine go_icmp_ge (tgt := 59) (d_M_all 12 rfl) (by decide) (fun _ => ?_) (fun q => absurd (of_decide_eq_true c_1) q)
      refine go_iload (d_M_all 59 rfl) rfl ?_
      exact go_iret (d_M_all 61 rfl) rfl rfl (Option.some.inj h) (by decide) (by decide)
    · refine go_icmp_ge (tgt := 59) (d_M_all 12 rfl) (by decide) (fun q => absurd q (of_decide_eq_false c_1)) (fun _ => ?_)
      refine go_iload (d_M_all 15 rfl) rfl ?_
      refine go_aload_n (d_M_all 17 rfl) rfl rfl ?_
      refine go_getR (d_M_all 18 rfl) fl_M_13 rfl rfl ?_
      show Go _ _ _ _ _ _ _ _ _ (.ref (ad (102)) :: .int x4 :: []) _ _
      refine go_iload (d_M_all 21 rfl) rfl ?_
      obtain ⟨g_2, h⟩ := gd_some h
      refine go_iald (d_M_all 23 rfl) rfl g_2 ?_
      refine go_iload_n (d_M_all 24 rfl) rfl rfl ?_
      rcases br_some h with ⟨c_3, h⟩ | ⟨c_3, h⟩
      · refine go_icmp_ne (tgt := 49) (d_M_all 25 rfl) (by decide) (fun q => absurd (of_decide_eq_true c_3) q) (fun _ => ?_)
        refine go_aload_n (d_M_all 28 rfl) rfl rfl ?_
        refine go_getR (d_M_all 29 rfl) fl_M_16 rfl rfl ?_
        show Go _ _ _ _ _ _ _ _ _ (.ref (ad (103)) :: .int x4 :: []) _ _
        refine go_iload (d_M_all 32 rfl) rfl ?_
        obtain ⟨g_4, h⟩ := gd_some h
        refine go_iald (d_M_all 34 rfl) rfl g_4 ?_
        refine go_iload_n (d_M_all 35 rfl) rfl rfl ?_
        rcases br_some h with ⟨c_5, h⟩ | ⟨c_5, h⟩
        · refine go_icmp_ne (tgt := 49) (d_M_all 36 rfl) (by decide) (fun q => absurd (of_decide_eq_true c_5) q) (fun _ => ?_)
          refine go_aload_n (d_M_all 39 rfl) rfl rfl ?_
          refine go_iload (d_M_all 40 rfl) rfl ?_
          refine go_iload_n (d_M_all 42 rfl) rfl rfl ?_
          obtain ⟨r_6, o_7, h⟩ := bd_some h
          obtain ⟨z_8, h⟩ := nt_some h
          refine go_cV (As := [.int x5, .int x3]) (rest := [.int x4]) (st2 := [.int (r_6.2.1), .int x4]) (c2 := 0) (s2 := 0) rfl rfl rfl rfl (Ca_M_act hl o_7)  (d_M_all 43 rfl) cw_M_112 ⟨w_689, w_24⟩ rfl (by decide) rfl ⟨by decide, by decide⟩ rfl (Nat.le_of_ble_eq_true rfl) ⟨by decide, by decide⟩ (fun _ => ?_) (fun q => absurd z_8 q)
          refine go_goto (tgt := 50) (d_M_all 46 rfl) (by decide) ?_
          exact b_M_all_50 hl _ ih (x1) (x2) (x3) (x4) (x5) (x4) (r_6.2.1) (r_6.2.2.2) h
        · refine go_icmp_ne (tgt := 49) (d_M_all 36 rfl) (by decide) (fun _ => ?_) (fun q => absurd q (of_decide_eq_false c_5))
          exact b_M_all_49 hl _ ih (x1) (x2) (x3) (x4) (x5) (x4) (v) h
      · refine go_icmp_ne (tgt := 49) (d_M_all 25 rfl) (by decide) (fun _ => ?_) (fun q => absurd q (of_decide_eq_false c_3))
        exact b_M_all_49 hl _ ih (x1) (x2) (x3) (x4) (x5) (x4) (v) h
def f_M_all (x1 : Int32) (x2 : Int32) (x3 : Int32) (v : go_V) : Option go_R := f_M_all_6  FU (x1) (x2) (x3) ((0 : Int32)) ((0 : Int32)) (v)
set_option maxHeartbeats 4000000 in
set_option maxRecDepth 100000 in
theorem Ca_M_all {l : Launch} {G : go_G} {ad : Nat → Nat} (hl : l.stackTraces = false) {r : go_R} {x1 : Int32} {x2 : Int32} {x3 : Int32} {v : go_V} (h : f_M_all x1 x2 x3 v = some r) : Ca l G y_M_all (.code y_M_all c_M_all 6 (some .int) :: go_TT) (rmD 1 0) 1 ad [.ref (ad (100)), .int x1, .int x2, .int x3] v r := by
  unfold f_M_all at h
  refine go_body (own := RM) (by decide) rfl (Nat.le_of_ble_eq_true rfl) ?_
  show Go l G M_M_all go_Ex0 (go_E G ad 1 r 0 0) ad v [(0, .ref (ad (100))), (1, .int x1), (2, .int x2), (3, .int x3)] 0 [] 0 0
  refine go_iconst (x := (0 : Int32)) (d_M_all 0 rfl) (by decide) ?_
  refine go_istore (lv' := [(0, .ref (ad (100))), (1, .int x1), (2, .int x2), (3, .int x3), (4, .int ((0 : Int32)))]) (d_M_all 1 rfl) (by decide) rfl ?_
  refine go_iconst (x := (0 : Int32)) (d_M_all 3 rfl) (by decide) ?_
  refine go_istore (lv' := [(0, .ref (ad (100))), (1, .int x1), (2, .int x2), (3, .int x3), (4, .int ((0 : Int32))), (5, .int ((0 : Int32)))]) (d_M_all 4 rfl) (by decide) rfl ?_
  exact b_M_all_6 hl  FU (x1) (x2) (x3) ((0 : Int32)) ((0 : Int32)) (v) h
abbrev M_M_tick : go_M := (c_M_tick, 5, (some .int), RM, [], rmD 2 0)
def f_M_tick_103 (rec42 : Int32 → Int32 → Int32 → go_V → Option go_R) (rec60 : Int32 → Int32 → Int32 → Int32 → go_V → Option go_R) (x1 : Int32) (x2 : Int32) (x3 : Int32) (x4 : Int32) (y0 : Int32) (y1 : Int32) (v : go_V) : Option go_R := rec60 (x1) ((y0 + y1)) (x3) ((x4 + 1)) (v)
set_option maxHeartbeats 4000000 in
set_option maxRecDepth 100000 in
theorem b_M_tick_103 {l : Launch} {G : go_G} {ad : Nat → Nat} (hl : l.stackTraces = false) {r : go_R} (rec42 : Int32 → Int32 → Int32 → go_V → Option go_R) (hrec42 : ∀ (x1 : Int32) (x2 : Int32) (x3 : Int32) (v : go_V), rec42 x1 x2 x3 v = some r → Go l G M_M_tick go_Ex0 (go_E G ad 1 r 0 0) ad v [(0, .ref (ad (100))), (1, .int x1), (2, .int x2), (3, .int x3)] 42 [] 0 0) (rec60 : Int32 → Int32 → Int32 → Int32 → go_V → Option go_R) (hrec60 : ∀ (x1 : Int32) (x2 : Int32) (x3 : Int32) (x4 : Int32) (v : go_V), rec60 x1 x2 x3 x4 v = some r → Go l G M_M_tick go_Ex0 (go_E G ad 1 r 0 0) ad v [(0, .ref (ad (100))), (1, .int x1), (2, .int x2), (3, .int x3), (4, .int x4)] 60 [] 0 0) (x1 : Int32) (x2 : Int32) (x3 : Int32) (x4 : Int32) (y0 : Int32) (y1 : Int32) (v : go_V) (h : f_M_tick_103 rec42 rec60 x1 x2 x3 x4 y0 y1 v = some r) : Go l G M_M_tick go_Ex0 (go_E G ad 1 r 0 0) ad v [(0, .ref (ad (100))), (1, .int x1), (2, .int x2), (3, .int x3), (4, .int x4)] 103 [.int y1, .int y0] 0 0 := by
  unfold f_M_tick_103 at h
  refine go_iadd (d_M_tick 103 rfl) ?_
  refine go_istore_n (lv' := [(0, .ref (ad (100))), (1, .int x1), (2, .int ((y0 + y1))), (3, .int x3), (4, .int x4)]) (d_M_tick 104 rfl) rfl (by decide) rfl ?_
  refine go_iinc (y := (x4 + 1)) (lv' := [(0, .ref (ad (100))), (1, .int x1), (2, .int ((y0 + y1))), (3, .int x3), (4, .int ((x4 + 1)))]) (d_M_tick 105 rfl) rfl rfl (by decide) rfl ?_
  refine go_goto (tgt := 60) (d_M_tick 108 rfl) (by decide) ?_
  exact hrec60 (x1) ((y0 + y1)) (x3) ((x4 + 1)) (v) h
def f_M_tick_60 (rec42 : Int32 → Int32 → Int32 → go_V → Option go_R) : Nat → Int32 → Int32 → Int32 → Int32 → go_V → Option go_R
  | 0, _, _, _, _, _ => none
  | n + 1, x1, x2, x3, x4, v => br (decide ((v 100 10) ≤ x4)) (rec42 (x1) (x2) ((x3 + 1)) (v)) (gd (go_in x4 12) (br (decide ((v 107 x4.toNatClampNeg) = 0)) (f_M_tick_103 (rec42) (f_M_tick_60 rec42 n) (x1) (x2) (x3) (x4) (x2) ((0 : Int32)) (v)) (gd (go_in x4 12) (bd (f_M_all (2 : Int32) ((v 100 1) - (v 110 x4.toNatClampNeg)) x4 v) (fun r_5 => nt r_5 (f_M_tick_103 (rec42) (f_M_tick_60 rec42 n) (x1) (x2) (x3) (x4) (x2) (r_5.2.1) (r_5.2.2.2)))))))
set_option maxHeartbeats 4000000 in
set_option maxRecDepth 100000 in
theorem b_M_tick_60 {l : Launch} {G : go_G} {ad : Nat → Nat} (hl : l.stackTraces = false) {r : go_R} (rec42 : Int32 → Int32 → Int32 → go_V → Option go_R) (hrec42 : ∀ (x1 : Int32) (x2 : Int32) (x3 : Int32) (v : go_V), rec42 x1 x2 x3 v = some r → Go l G M_M_tick go_Ex0 (go_E G ad 1 r 0 0) ad v [(0, .ref (ad (100))), (1, .int x1), (2, .int x2), (3, .int x3)] 42 [] 0 0) : ∀ (n : Nat) (x1 : Int32) (x2 : Int32) (x3 : Int32) (x4 : Int32) (v : go_V), f_M_tick_60 rec42 n x1 x2 x3 x4 v = some r → Go l G M_M_tick go_Ex0 (go_E G ad 1 r 0 0) ad v [(0, .ref (ad (100))), (1, .int x1), (2, .int x2), (3, .int x3), (4, .int x4)] 60 [] 0 0 := by
  intro n
  induction n with
  | zero =>
    intro x1 x2 x3 x4 v h
    cases h
  | succ n ih =>
    intro x1 x2 x3 x4 v h
    rw [f_M_tick_60] at h
    refine go_iload (d_M_tick 60 rfl) rfl ?_
    refine go_aload_n (d_M_tick 62 rfl) rfl rfl ?_
    refine go_getI (d_M_tick 63 rfl) fl_M_70 rfl rfl ?_
    rcases br_some h with ⟨c_1, h⟩ | ⟨c_1, h⟩
    · refine go_icmp_ge (tgt := 111) (d_M_tick 66 rfl) (by decide) (fun _ => ?_) (fun q => absurd (of_decide_eq_true c_1) q)
      refine go_iinc (y := (x3 + 1)) (lv' := [(0, .ref (ad (100))), (1, .int x1), (2, .int x2), (3, .int ((x3 + 1))), (4, .int x4)]) (d_M_tick 111 rfl) rfl rfl (by decide) rfl ?_
      refine go_goto (tgt := 42) (d_M_tick 114 rfl) (by decide) ?_
      refine go_sub (lv' := [(0, .ref (ad (100))), (1, .int x1), (2, .int x2), (3, .int ((x3 + 1)))]) ⟨rfl, rfl, rfl, rfl, trivial⟩ ?_
      exact hrec42 (x1) (x2) ((x3 + 1)) (v) h
    · refine go_icmp_ge (tgt := 111) (d_M_tick 66 rfl) (by decide) (fun q => absurd q (of_decide_eq_false c_1)) (fun _ => ?_)
      refine go_iload_n (d_M_tick 69 rfl) rfl rfl ?_
      refine go_aload_n (d_M_tick 70 rfl) rfl rfl ?_
      refine go_getR (d_M_tick 71 rfl) fl_M_28 rfl rfl ?_
      show Go _ _ _ _ _ _ _ _ _ (.ref (ad (107)) :: .int x2 :: []) _ _
      refine go_iload (d_M_tick 74 rfl) rfl ?_
      obtain ⟨g_2, h⟩ := gd_some h
      refine go_zald (d_M_tick 76 rfl) rfl g_2 ?_
      rcases br_some h with ⟨c_3, h⟩ | ⟨c_3, h⟩
      · refine go_if_eq (tgt := 102) (d_M_tick 77 rfl) (by decide) (fun _ => ?_) (fun q => absurd (of_decide_eq_true c_3) q)
        refine go_iconst (x := (0 : Int32)) (d_M_tick 102 rfl) (by decide) ?_
        exact b_M_tick_103 hl _ hrec42 _ ih (x1) (x2) (x3) (x4) (x2) ((0 : Int32)) (v) h
      · refine go_if_eq (tgt := 102) (d_M_tick 77 rfl) (by decide) (fun q => absurd q (of_decide_eq_false c_3)) (fun _ => ?_)
        refine go_aload_n (d_M_tick 80 rfl) rfl rfl ?_
        refine go_iconst (x := (2 : Int32)) (d_M_tick 81 rfl) (by decide) ?_
        refine go_aload_n (d_M_tick 82 rfl) rfl rfl ?_
        refine go_getI (d_M_tick 83 rfl) fl_M_95 rfl rfl ?_
        refine go_aload_n (d_M_tick 86 rfl) rfl rfl ?_
        refine go_getR (d_M_tick 87 rfl) fl_M_38 rfl rfl ?_
        show Go _ _ _ _ _ _ _ _ _ (.ref (ad (110)) :: .int ((v 100 1)) :: .int ((2 : Int32)) :: .ref (ad (100)) :: .int x2 :: []) _ _
        refine go_iload (d_M_tick 90 rfl) rfl ?_
        obtain ⟨g_4, h⟩ := gd_some h
        refine go_iald (d_M_tick 92 rfl) rfl g_4 ?_
        refine go_isub (d_M_tick 93 rfl) ?_
        refine go_iload (d_M_tick 94 rfl) rfl ?_
        obtain ⟨r_5, o_6, h⟩ := bd_some h
        obtain ⟨z_7, h⟩ := nt_some h
        refine go_cV (As := [.int ((2 : Int32)), .int (((v 100 1) - (v 110 x4.toNatClampNeg))), .int x4]) (rest := [.int x2]) (st2 := [.int (r_5.2.1), .int x2]) (c2 := 0) (s2 := 0) rfl rfl rfl rfl (Ca_M_all hl o_6)  (d_M_tick 96 rfl) cw_M_117 ⟨w_685, w_23⟩ rfl (by decide) rfl ⟨by decide, by decide⟩ rfl (Nat.le_of_ble_eq_true rfl) ⟨by decide, by decide⟩ (fun _ => ?_) (fun q => absurd z_7 q)
        refine go_goto (tgt := 103) (d_M_tick 99 rfl) (by decide) ?_
        exact b_M_tick_103 hl _ hrec42 _ ih (x1) (x2) (x3) (x4) (x2) (r_5.2.1) (r_5.2.2.2) h
def f_M_tick_42  : Nat → Int32 → Int32 → Int32 → go_V → Option go_R
  | 0, _, _, _, _ => none
  | n + 1, x1, x2, x3, v => br (decide (x1 ≤ x3)) (some (0, x2, 0, v)) (ln (u2 v 100 1 ((v 100 1) + (1 : Int32))) (fun v_2 => f_M_tick_60 (f_M_tick_42 n) FU (x1) (x2) (x3) ((0 : Int32)) (v_2)))
set_option maxHeartbeats 4000000 in
set_option maxRecDepth 100000 in
theorem b_M_tick_42 {l : Launch} {G : go_G} {ad : Nat → Nat} (hl : l.stackTraces = false) {r : go_R}  : ∀ (n : Nat) (x1 : Int32) (x2 : Int32) (x3 : Int32) (v : go_V), f_M_tick_42  n x1 x2 x3 v = some r → Go l G M_M_tick go_Ex0 (go_E G ad 1 r 0 0) ad v [(0, .ref (ad (100))), (1, .int x1), (2, .int x2), (3, .int x3)] 42 [] 0 0 := by
  intro n
  induction n with
  | zero =>
    intro x1 x2 x3 v h
    cases h
  | succ n ih =>
    intro x1 x2 x3 v h
    rw [f_M_tick_42] at h
    refine go_iload_n (d_M_tick 42 rfl) rfl rfl ?_
    refine go_iload_n (d_M_tick 43 rfl) rfl rfl ?_
    rcases br_some h with ⟨c_1, h⟩ | ⟨c_1, h⟩
    · refine go_icmp_ge (tgt := 117) (d_M_tick 44 rfl) (by decide) (fun _ => ?_) (fun q => absurd (of_decide_eq_true c_1) q)
      refine go_iload_n (d_M_tick 117 rfl) rfl rfl ?_
      exact go_iret (d_M_tick 118 rfl) rfl rfl (Option.some.inj h) (by decide) (by decide)
    · refine go_icmp_ge (tgt := 117) (d_M_tick 44 rfl) (by decide) (fun q => absurd q (of_decide_eq_false c_1)) (fun _ => ?_)
      refine go_aload_n (d_M_tick 47 rfl) rfl rfl ?_
      refine go_dup (d_M_tick 48 rfl) rfl ?_
      refine go_getI (d_M_tick 49 rfl) fl_M_95 rfl rfl ?_
      refine go_iconst (x := (1 : Int32)) (d_M_tick 52 rfl) (by decide) ?_
      refine go_iadd (d_M_tick 53 rfl) ?_
      obtain ⟨v_2, ev_2, h⟩ := ln_some h
      refine go_putI (x := ((v 100 1) + (1 : Int32))) (d_M_tick 54 rfl) fp_M_95 rfl rfl rfl rfl ?_
      rw [← ev_2]
      refine go_iconst (x := (0 : Int32)) (d_M_tick 57 rfl) (by decide) ?_
      refine go_istore (lv' := [(0, .ref (ad (100))), (1, .int x1), (2, .int x2), (3, .int x3), (4, .int ((0 : Int32)))]) (d_M_tick 58 rfl) (by decide) rfl ?_
      exact b_M_tick_60 hl _ ih FU (x1) (x2) (x3) ((0 : Int32)) (v_2) h
def f_M_tick_28  (x1 : Int32) (y1 : Int32) (v : go_V) : Option go_R := bd (f_M_throwing y1 (0 : Int32) (0 : Int32) v) (fun r_1 => nt r_1 (br (decide (r_1.2.1 = 0)) (f_M_tick_42  FU (x1) ((0 : Int32)) ((0 : Int32)) (r_1.2.2.2)) (some (0, (0 : Int32), 0, r_1.2.2.2))))
set_option maxHeartbeats 4000000 in
set_option maxRecDepth 100000 in
theorem b_M_tick_28 {l : Launch} {G : go_G} {ad : Nat → Nat} (hl : l.stackTraces = false) {r : go_R}  (x1 : Int32) (y1 : Int32) (v : go_V) (h : f_M_tick_28  x1 y1 v = some r) : Go l G M_M_tick go_Ex0 (go_E G ad 1 r 0 0) ad v [(0, .ref (ad (100))), (1, .int x1)] 28 [.int y1, .ref (ad (100))] 0 0 := by
  unfold f_M_tick_28 at h
  refine go_iconst (x := (0 : Int32)) (d_M_tick 28 rfl) (by decide) ?_
  refine go_iconst (x := (0 : Int32)) (d_M_tick 29 rfl) (by decide) ?_
  obtain ⟨r_1, o_2, h⟩ := bd_some h
  obtain ⟨z_3, h⟩ := nt_some h
  refine go_cV (As := [.int y1, .int ((0 : Int32)), .int ((0 : Int32))]) (rest := []) (st2 := [.int (r_1.2.1)]) (c2 := 0) (s2 := 0) rfl rfl rfl rfl (Ca_M_throwing hl o_2)  (d_M_tick 30 rfl) cw_M_84 ⟨w_643, w_18⟩ rfl (by decide) rfl ⟨by decide, by decide⟩ rfl (Nat.le_of_ble_eq_true rfl) ⟨by decide, by decide⟩ (fun _ => ?_) (fun q => absurd z_3 q)
  rcases br_some h with ⟨c_4, h⟩ | ⟨c_4, h⟩
  · refine go_if_eq (tgt := 38) (d_M_tick 33 rfl) (by decide) (fun _ => ?_) (fun q => absurd (of_decide_eq_true c_4) q)
    refine go_iconst (x := (0 : Int32)) (d_M_tick 38 rfl) (by decide) ?_
    refine go_istore_n (lv' := [(0, .ref (ad (100))), (1, .int x1), (2, .int ((0 : Int32)))]) (d_M_tick 39 rfl) rfl (by decide) rfl ?_
    refine go_iconst (x := (0 : Int32)) (d_M_tick 40 rfl) (by decide) ?_
    refine go_istore_n (lv' := [(0, .ref (ad (100))), (1, .int x1), (2, .int ((0 : Int32))), (3, .int ((0 : Int32)))]) (d_M_tick 41 rfl) rfl (by decide) rfl ?_
    exact b_M_tick_42 hl  FU (x1) ((0 : Int32)) ((0 : Int32)) (r_1.2.2.2) h
  · refine go_if_eq (tgt := 38) (d_M_tick 33 rfl) (by decide) (fun q => absurd q (of_decide_eq_false c_4)) (fun _ => ?_)
    refine go_iconst (x := (0 : Int32)) (d_M_tick 36 rfl) (by decide) ?_
    exact go_iret (d_M_tick 37 rfl) rfl rfl (Option.some.inj h) (by decide) (by decide)
def f_M_tick_23  (x1 : Int32) (v : go_V) : Option go_R := f_M_tick_28  (x1) ((1 : Int32)) (v)
set_option maxHeartbeats 4000000 in
set_option maxRecDepth 100000 in
theorem b_M_tick_23 {l : Launch} {G : go_G} {ad : Nat → Nat} (hl : l.stackTraces = false) {r : go_R}  (x1 : Int32) (v : go_V) (h : f_M_tick_23  x1 v = some r) : Go l G M_M_tick go_Ex0 (go_E G ad 1 r 0 0) ad v [(0, .ref (ad (100))), (1, .int x1)] 23 [.ref (ad (100))] 0 0 := by
  unfold f_M_tick_23 at h
  refine go_iconst (x := (1 : Int32)) (d_M_tick 23 rfl) (by decide) ?_
  refine go_goto (tgt := 28) (d_M_tick 24 rfl) (by decide) ?_
  exact b_M_tick_28 hl  (x1) ((1 : Int32)) (v) h
def f_M_tick (x1 : Int32) (v : go_V) : Option go_R := bd (f_M_in x1 (1 : Int32) (5000 : Int32) v) (fun r_1 => nt r_1 (br (decide (r_1.2.1 = 0)) (f_M_tick_23  (x1) (r_1.2.2.2)) (br (decide (((r_1.2.2.2 100 1) + x1) ≤ (999999 : Int32))) (f_M_tick_28  (x1) ((0 : Int32)) (r_1.2.2.2)) (f_M_tick_23  (x1) (r_1.2.2.2)))))
set_option maxHeartbeats 4000000 in
set_option maxRecDepth 100000 in
theorem Ca_M_tick {l : Launch} {G : go_G} {ad : Nat → Nat} (hl : l.stackTraces = false) {r : go_R} {x1 : Int32} {v : go_V} (h : f_M_tick x1 v = some r) : Ca l G y_M_tick (.code y_M_tick c_M_tick 5 (some .int) :: go_TT) (rmD 2 0) 1 ad [.ref (ad (100)), .int x1] v r := by
  unfold f_M_tick at h
  refine go_body (own := RM) (by decide) rfl (Nat.le_of_ble_eq_true rfl) ?_
  show Go l G M_M_tick go_Ex0 (go_E G ad 1 r 0 0) ad v [(0, .ref (ad (100))), (1, .int x1)] 0 [] 0 0
  refine go_aload_n (d_M_tick 0 rfl) rfl rfl ?_
  refine go_iload_n (d_M_tick 1 rfl) rfl rfl ?_
  refine go_iconst (x := (1 : Int32)) (d_M_tick 2 rfl) (by decide) ?_
  refine go_sipush (x := (5000 : Int32)) (d_M_tick 3 rfl) (by decide) ?_
  obtain ⟨r_1, o_2, h⟩ := bd_some h
  obtain ⟨z_3, h⟩ := nt_some h
  refine go_cS (As := [.int x1, .int ((1 : Int32)), .int ((5000 : Int32))]) (rest := [.ref (ad (100))]) (st2 := [.int (r_1.2.1), .ref (ad (100))]) (c2 := 0) (s2 := 0) rfl rfl rfl rfl (Ca_M_in hl o_2)  (d_M_tick 6 rfl) cw_M_73 w_639 ⟨by decide, by decide⟩ rfl (Nat.le_of_ble_eq_true rfl) ⟨by decide, by decide⟩ (fun _ => ?_) (fun q => absurd z_3 q)
  rcases br_some h with ⟨c_4, h⟩ | ⟨c_4, h⟩
  · refine go_if_eq (tgt := 23) (d_M_tick 9 rfl) (by decide) (fun _ => ?_) (fun q => absurd (of_decide_eq_true c_4) q)
    exact b_M_tick_23 hl  (x1) (r_1.2.2.2) h
  · refine go_if_eq (tgt := 23) (d_M_tick 9 rfl) (by decide) (fun q => absurd q (of_decide_eq_false c_4)) (fun _ => ?_)
    refine go_aload_n (d_M_tick 12 rfl) rfl rfl ?_
    refine go_getI (d_M_tick 13 rfl) fl_M_95 rfl rfl ?_
    refine go_iload_n (d_M_tick 16 rfl) rfl rfl ?_
    refine go_iadd (d_M_tick 17 rfl) ?_
    refine go_ldc (x := (999999 : Int32)) (d_M_tick 18 rfl) w_682 ?_
    rcases br_some h with ⟨c_5, h⟩ | ⟨c_5, h⟩
    · refine go_icmp_le (tgt := 27) (d_M_tick 20 rfl) (by decide) (fun _ => ?_) (fun q => absurd (of_decide_eq_true c_5) q)
      refine go_iconst (x := (0 : Int32)) (d_M_tick 27 rfl) (by decide) ?_
      exact b_M_tick_28 hl  (x1) ((0 : Int32)) (r_1.2.2.2) h
    · refine go_icmp_le (tgt := 27) (d_M_tick 20 rfl) (by decide) (fun q => absurd q (of_decide_eq_false c_5)) (fun _ => ?_)
      exact b_M_tick_23 hl  (x1) (r_1.2.2.2) h
abbrev M_M_word : go_M := (c_M_word, 5, (some .int), RM, [], rmD 3 0)
def f_M_word_107  (x1 : Int32) (x2 : Int32) (x3 : Int32) (x4 : Int32) (y1 : Int32) (y2 : Int32) (v : go_V) : Option go_R := ln (u2 v 100 24 (y1 + y2)) (fun v_1 => bd (f_M_all (0 : Int32) x2 x1 v_1) (fun r_2 => nt r_2 (some (0, r_2.2.1, 0, r_2.2.2.2))))
set_option maxHeartbeats 4000000 in
set_option maxRecDepth 100000 in
theorem b_M_word_107 {l : Launch} {G : go_G} {ad : Nat → Nat} (hl : l.stackTraces = false) {r : go_R}  (x1 : Int32) (x2 : Int32) (x3 : Int32) (x4 : Int32) (y1 : Int32) (y2 : Int32) (v : go_V) (h : f_M_word_107  x1 x2 x3 x4 y1 y2 v = some r) : Go l G M_M_word go_Ex0 (go_E G ad 1 r 0 0) ad v [(0, .ref (ad (100))), (1, .int x1), (2, .int x2), (3, .int x3), (4, .int x4)] 107 [.int y2, .int y1, .ref (ad (100))] 0 0 := by
  unfold f_M_word_107 at h
  refine go_iadd (d_M_word 107 rfl) ?_
  obtain ⟨v_1, ev_1, h⟩ := ln_some h
  refine go_putI (x := (y1 + y2)) (d_M_word 108 rfl) fp_M_121 rfl rfl rfl rfl ?_
  rw [← ev_1]
  refine go_aload_n (d_M_word 111 rfl) rfl rfl ?_
  refine go_iconst (x := (0 : Int32)) (d_M_word 112 rfl) (by decide) ?_
  refine go_iload_n (d_M_word 113 rfl) rfl rfl ?_
  refine go_iload_n (d_M_word 114 rfl) rfl rfl ?_
  obtain ⟨r_2, o_3, h⟩ := bd_some h
  obtain ⟨z_4, h⟩ := nt_some h
  refine go_cV (As := [.int ((0 : Int32)), .int x2, .int x1]) (rest := []) (st2 := [.int (r_2.2.1)]) (c2 := 0) (s2 := 0) rfl rfl rfl rfl (Ca_M_all hl o_3)  (d_M_word 115 rfl) cw_M_117 ⟨w_685, w_23⟩ rfl (by decide) rfl ⟨by decide, by decide⟩ rfl (Nat.le_of_ble_eq_true rfl) ⟨by decide, by decide⟩ (fun _ => ?_) (fun q => absurd z_4 q)
  exact go_iret (d_M_word 118 rfl) rfl rfl (Option.some.inj h) (by decide) (by decide)
def f_M_word_86 (rec47 : Int32 → Int32 → Int32 → Int32 → go_V → Option go_R) (x1 : Int32) (x2 : Int32) (x3 : Int32) (x4 : Int32) (y0 : Int32) (v : go_V) : Option go_R := rec47 (x1) (x2) (y0) ((x4 + 1)) (v)
set_option maxHeartbeats 4000000 in
set_option maxRecDepth 100000 in
theorem b_M_word_86 {l : Launch} {G : go_G} {ad : Nat → Nat} (hl : l.stackTraces = false) {r : go_R} (rec47 : Int32 → Int32 → Int32 → Int32 → go_V → Option go_R) (hrec47 : ∀ (x1 : Int32) (x2 : Int32) (x3 : Int32) (x4 : Int32) (v : go_V), rec47 x1 x2 x3 x4 v = some r → Go l G M_M_word go_Ex0 (go_E G ad 1 r 0 0) ad v [(0, .ref (ad (100))), (1, .int x1), (2, .int x2), (3, .int x3), (4, .int x4)] 47 [] 0 0) (x1 : Int32) (x2 : Int32) (x3 : Int32) (x4 : Int32) (y0 : Int32) (v : go_V) (h : f_M_word_86 rec47 x1 x2 x3 x4 y0 v = some r) : Go l G M_M_word go_Ex0 (go_E G ad 1 r 0 0) ad v [(0, .ref (ad (100))), (1, .int x1), (2, .int x2), (3, .int x3), (4, .int x4)] 86 [.int y0] 0 0 := by
  unfold f_M_word_86 at h
  refine go_istore_n (lv' := [(0, .ref (ad (100))), (1, .int x1), (2, .int x2), (3, .int y0), (4, .int x4)]) (d_M_word 86 rfl) rfl (by decide) rfl ?_
  refine go_iinc (y := (x4 + 1)) (lv' := [(0, .ref (ad (100))), (1, .int x1), (2, .int x2), (3, .int y0), (4, .int ((x4 + 1)))]) (d_M_word 87 rfl) rfl rfl (by decide) rfl ?_
  refine go_goto (tgt := 47) (d_M_word 90 rfl) (by decide) ?_
  exact hrec47 (x1) (x2) (y0) ((x4 + 1)) (v) h
def f_M_word_81 (rec47 : Int32 → Int32 → Int32 → Int32 → go_V → Option go_R) (x1 : Int32) (x2 : Int32) (x3 : Int32) (x4 : Int32) (v : go_V) : Option go_R := f_M_word_86 (rec47) (x1) (x2) (x3) (x4) ((1 : Int32)) (v)
set_option maxHeartbeats 4000000 in
set_option maxRecDepth 100000 in
theorem b_M_word_81 {l : Launch} {G : go_G} {ad : Nat → Nat} (hl : l.stackTraces = false) {r : go_R} (rec47 : Int32 → Int32 → Int32 → Int32 → go_V → Option go_R) (hrec47 : ∀ (x1 : Int32) (x2 : Int32) (x3 : Int32) (x4 : Int32) (v : go_V), rec47 x1 x2 x3 x4 v = some r → Go l G M_M_word go_Ex0 (go_E G ad 1 r 0 0) ad v [(0, .ref (ad (100))), (1, .int x1), (2, .int x2), (3, .int x3), (4, .int x4)] 47 [] 0 0) (x1 : Int32) (x2 : Int32) (x3 : Int32) (x4 : Int32) (v : go_V) (h : f_M_word_81 rec47 x1 x2 x3 x4 v = some r) : Go l G M_M_word go_Ex0 (go_E G ad 1 r 0 0) ad v [(0, .ref (ad (100))), (1, .int x1), (2, .int x2), (3, .int x3), (4, .int x4)] 81 [] 0 0 := by
  unfold f_M_word_81 at h
  refine go_iconst (x := (1 : Int32)) (d_M_word 81 rfl) (by decide) ?_
  refine go_goto (tgt := 86) (d_M_word 82 rfl) (by decide) ?_
  exact b_M_word_86 hl _ hrec47 (x1) (x2) (x3) (x4) ((1 : Int32)) (v) h
def f_M_word_85 (rec47 : Int32 → Int32 → Int32 → Int32 → go_V → Option go_R) (x1 : Int32) (x2 : Int32) (x3 : Int32) (x4 : Int32) (v : go_V) : Option go_R := f_M_word_86 (rec47) (x1) (x2) (x3) (x4) ((0 : Int32)) (v)
set_option maxHeartbeats 4000000 in
set_option maxRecDepth 100000 in
theorem b_M_word_85 {l : Launch} {G : go_G} {ad : Nat → Nat} (hl : l.stackTraces = false) {r : go_R} (rec47 : Int32 → Int32 → Int32 → Int32 → go_V → Option go_R) (hrec47 : ∀ (x1 : Int32) (x2 : Int32) (x3 : Int32) (x4 : Int32) (v : go_V), rec47 x1 x2 x3 x4 v = some r → Go l G M_M_word go_Ex0 (go_E G ad 1 r 0 0) ad v [(0, .ref (ad (100))), (1, .int x1), (2, .int x2), (3, .int x3), (4, .int x4)] 47 [] 0 0) (x1 : Int32) (x2 : Int32) (x3 : Int32) (x4 : Int32) (v : go_V) (h : f_M_word_85 rec47 x1 x2 x3 x4 v = some r) : Go l G M_M_word go_Ex0 (go_E G ad 1 r 0 0) ad v [(0, .ref (ad (100))), (1, .int x1), (2, .int x2), (3, .int x3), (4, .int x4)] 85 [] 0 0 := by
  unfold f_M_word_85 at h
  refine go_iconst (x := (0 : Int32)) (d_M_word 85 rfl) (by decide) ?_
  exact b_M_word_86 hl _ hrec47 (x1) (x2) (x3) (x4) ((0 : Int32)) (v) h
def f_M_word_47  : Nat → Int32 → Int32 → Int32 → Int32 → go_V → Option go_R
  | 0, _, _, _, _, _ => none
  | n + 1, x1, x2, x3, x4, v => br (decide ((v 100 4) ≤ x4)) (br (decide (x3 = 0)) (f_M_word_107  (x1) (x2) (x3) (x4) ((v 100 24)) ((1 : Int32)) (v)) (f_M_word_107  (x1) (x2) (x3) (x4) ((v 100 24)) ((0 : Int32)) (v))) (br (decide (x3 = 0)) (gd (go_in x4 20) (br (decide ((v 102 x4.toNatClampNeg) = 0)) (gd (go_in x4 20) (br (decide ((v 103 x4.toNatClampNeg) = x2)) (f_M_word_81 (f_M_word_47 n) (x1) (x2) (x3) (x4) (v)) (f_M_word_85 (f_M_word_47 n) (x1) (x2) (x3) (x4) (v)))) (f_M_word_85 (f_M_word_47 n) (x1) (x2) (x3) (x4) (v)))) (f_M_word_81 (f_M_word_47 n) (x1) (x2) (x3) (x4) (v)))
set_option maxHeartbeats 4000000 in
set_option maxRecDepth 100000 in
theorem b_M_word_47 {l : Launch} {G : go_G} {ad : Nat → Nat} (hl : l.stackTraces = false) {r : go_R}  : ∀ (n : Nat) (x1 : Int32) (x2 : Int32) (x3 : Int32) (x4 : Int32) (v : go_V), f_M_word_47  n x1 x2 x3 x4 v = some r → Go l G M_M_word go_Ex0 (go_E G ad 1 r 0 0) ad v [(0, .ref (ad (100))), (1, .int x1), (2, .int x2), (3, .int x3), (4, .int x4)] 47 [] 0 0 := by
  intro n
  induction n with
  | zero =>
    intro x1 x2 x3 x4 v h
    cases h
  | succ n ih =>
    intro x1 x2 x3 x4 v h
    rw [f_M_word_47] at h
    refine go_iload (d_M_word 47 rfl) rfl ?_
    refine go_aload_n (d_M_word 49 rfl) rfl rfl ?_
    refine go_getI (d_M_word 50 rfl) fl_M_92 rfl rfl ?_
    rcases br_some h with ⟨c_1, h⟩ | ⟨c_1, h⟩
    · refine go_icmp_ge (tgt := 93) (d_M_word 53 rfl) (by decide) (fun _ => ?_) (fun q => absurd (of_decide_eq_true c_1) q)
      refine go_aload_n (d_M_word 93 rfl) rfl rfl ?_
      refine go_dup (d_M_word 94 rfl) rfl ?_
      refine go_getI (d_M_word 95 rfl) fl_M_121 rfl rfl ?_
      refine go_iload_n (d_M_word 98 rfl) rfl rfl ?_
      rcases br_some h with ⟨c_2, h⟩ | ⟨c_2, h⟩
      · refine go_if_eq (tgt := 106) (d_M_word 99 rfl) (by decide) (fun _ => ?_) (fun q => absurd (of_decide_eq_true c_2) q)
        refine go_iconst (x := (1 : Int32)) (d_M_word 106 rfl) (by decide) ?_
        exact b_M_word_107 hl  (x1) (x2) (x3) (x4) ((v 100 24)) ((1 : Int32)) (v) h
      · refine go_if_eq (tgt := 106) (d_M_word 99 rfl) (by decide) (fun q => absurd q (of_decide_eq_false c_2)) (fun _ => ?_)
        refine go_iconst (x := (0 : Int32)) (d_M_word 102 rfl) (by decide) ?_
        refine go_goto (tgt := 107) (d_M_word 103 rfl) (by decide) ?_
        exact b_M_word_107 hl  (x1) (x2) (x3) (x4) ((v 100 24)) ((0 : Int32)) (v) h
    · refine go_icmp_ge (tgt := 93) (d_M_word 53 rfl) (by decide) (fun q => absurd q (of_decide_eq_false c_1)) (fun _ => ?_)
      refine go_iload_n (d_M_word 56 rfl) rfl rfl ?_
      rcases br_some h with ⟨c_3, h⟩ | ⟨c_3, h⟩
      · refine go_if_ne (tgt := 81) (d_M_word 57 rfl) (by decide) (fun q => absurd (of_decide_eq_true c_3) q) (fun _ => ?_)
        refine go_aload_n (d_M_word 60 rfl) rfl rfl ?_
        refine go_getR (d_M_word 61 rfl) fl_M_13 rfl rfl ?_
        show Go _ _ _ _ _ _ _ _ _ (.ref (ad (102)) :: []) _ _
        refine go_iload (d_M_word 64 rfl) rfl ?_
        obtain ⟨g_4, h⟩ := gd_some h
        refine go_iald (d_M_word 66 rfl) rfl g_4 ?_
        rcases br_some h with ⟨c_5, h⟩ | ⟨c_5, h⟩
        · refine go_if_ne (tgt := 85) (d_M_word 67 rfl) (by decide) (fun q => absurd (of_decide_eq_true c_5) q) (fun _ => ?_)
          refine go_aload_n (d_M_word 70 rfl) rfl rfl ?_
          refine go_getR (d_M_word 71 rfl) fl_M_16 rfl rfl ?_
          show Go _ _ _ _ _ _ _ _ _ (.ref (ad (103)) :: []) _ _
          refine go_iload (d_M_word 74 rfl) rfl ?_
          obtain ⟨g_6, h⟩ := gd_some h
          refine go_iald (d_M_word 76 rfl) rfl g_6 ?_
          refine go_iload_n (d_M_word 77 rfl) rfl rfl ?_
          rcases br_some h with ⟨c_7, h⟩ | ⟨c_7, h⟩
          · refine go_icmp_ne (tgt := 85) (d_M_word 78 rfl) (by decide) (fun q => absurd (of_decide_eq_true c_7) q) (fun _ => ?_)
            exact b_M_word_81 hl _ ih (x1) (x2) (x3) (x4) (v) h
          · refine go_icmp_ne (tgt := 85) (d_M_word 78 rfl) (by decide) (fun _ => ?_) (fun q => absurd q (of_decide_eq_false c_7))
            exact b_M_word_85 hl _ ih (x1) (x2) (x3) (x4) (v) h
        · refine go_if_ne (tgt := 85) (d_M_word 67 rfl) (by decide) (fun _ => ?_) (fun q => absurd q (of_decide_eq_false c_5))
          exact b_M_word_85 hl _ ih (x1) (x2) (x3) (x4) (v) h
      · refine go_if_ne (tgt := 81) (d_M_word 57 rfl) (by decide) (fun _ => ?_) (fun q => absurd q (of_decide_eq_false c_3))
        exact b_M_word_81 hl _ ih (x1) (x2) (x3) (x4) (v) h
def f_M_word_29  (x1 : Int32) (x2 : Int32) (y1 : Int32) (y2 : Int32) (v : go_V) : Option go_R := bd (f_M_isClosed x1 v) (fun r_1 => nt r_1 (bd (f_M_throwing y1 y2 r_1.2.1 r_1.2.2.2) (fun r_4 => nt r_4 (br (decide (r_4.2.1 = 0)) (f_M_word_47  FU (x1) (x2) ((0 : Int32)) ((0 : Int32)) (r_4.2.2.2)) (some (0, (0 : Int32), 0, r_4.2.2.2))))))
set_option maxHeartbeats 4000000 in
set_option maxRecDepth 100000 in
theorem b_M_word_29 {l : Launch} {G : go_G} {ad : Nat → Nat} (hl : l.stackTraces = false) {r : go_R}  (x1 : Int32) (x2 : Int32) (y1 : Int32) (y2 : Int32) (v : go_V) (h : f_M_word_29  x1 x2 y1 y2 v = some r) : Go l G M_M_word go_Ex0 (go_E G ad 1 r 0 0) ad v [(0, .ref (ad (100))), (1, .int x1), (2, .int x2)] 29 [.int y2, .int y1, .ref (ad (100))] 0 0 := by
  unfold f_M_word_29 at h
  refine go_aload_n (d_M_word 29 rfl) rfl rfl ?_
  refine go_iload_n (d_M_word 30 rfl) rfl rfl ?_
  obtain ⟨r_1, o_2, h⟩ := bd_some h
  obtain ⟨z_3, h⟩ := nt_some h
  refine go_cV (As := [.int x1]) (rest := [.int y2, .int y1, .ref (ad (100))]) (st2 := [.int (r_1.2.1), .int y2, .int y1, .ref (ad (100))]) (c2 := 0) (s2 := 0) rfl rfl rfl rfl (Ca_M_isClosed hl o_2)  (d_M_word 31 rfl) cw_M_98 ⟨w_668, w_20⟩ rfl (by decide) rfl ⟨by decide, by decide⟩ rfl (Nat.le_of_ble_eq_true rfl) ⟨by decide, by decide⟩ (fun _ => ?_) (fun q => absurd z_3 q)
  obtain ⟨r_4, o_5, h⟩ := bd_some h
  obtain ⟨z_6, h⟩ := nt_some h
  refine go_cV (As := [.int y1, .int y2, .int (r_1.2.1)]) (rest := []) (st2 := [.int (r_4.2.1)]) (c2 := 0) (s2 := 0) rfl rfl rfl rfl (Ca_M_throwing hl o_5)  (d_M_word 34 rfl) cw_M_84 ⟨w_643, w_18⟩ rfl (by decide) rfl ⟨by decide, by decide⟩ rfl (Nat.le_of_ble_eq_true rfl) ⟨by decide, by decide⟩ (fun _ => ?_) (fun q => absurd z_6 q)
  rcases br_some h with ⟨c_7, h⟩ | ⟨c_7, h⟩
  · refine go_if_eq (tgt := 42) (d_M_word 37 rfl) (by decide) (fun _ => ?_) (fun q => absurd (of_decide_eq_true c_7) q)
    refine go_iconst (x := (0 : Int32)) (d_M_word 42 rfl) (by decide) ?_
    refine go_istore_n (lv' := [(0, .ref (ad (100))), (1, .int x1), (2, .int x2), (3, .int ((0 : Int32)))]) (d_M_word 43 rfl) rfl (by decide) rfl ?_
    refine go_iconst (x := (0 : Int32)) (d_M_word 44 rfl) (by decide) ?_
    refine go_istore (lv' := [(0, .ref (ad (100))), (1, .int x1), (2, .int x2), (3, .int ((0 : Int32))), (4, .int ((0 : Int32)))]) (d_M_word 45 rfl) (by decide) rfl ?_
    exact b_M_word_47 hl  FU (x1) (x2) ((0 : Int32)) ((0 : Int32)) (r_4.2.2.2) h
  · refine go_if_eq (tgt := 42) (d_M_word 37 rfl) (by decide) (fun q => absurd q (of_decide_eq_false c_7)) (fun _ => ?_)
    refine go_iconst (x := (0 : Int32)) (d_M_word 40 rfl) (by decide) ?_
    exact go_iret (d_M_word 41 rfl) rfl rfl (Option.some.inj h) (by decide) (by decide)
def f_M_word_14  (x1 : Int32) (x2 : Int32) (y1 : Int32) (v : go_V) : Option go_R := bd (f_M_in x2 (0 : Int32) (99 : Int32) v) (fun r_1 => nt r_1 (br (decide (r_1.2.1 = 0)) (f_M_word_29  (x1) (x2) (y1) ((1 : Int32)) (r_1.2.2.2)) (f_M_word_29  (x1) (x2) (y1) ((0 : Int32)) (r_1.2.2.2))))
set_option maxHeartbeats 4000000 in
set_option maxRecDepth 100000 in
theorem b_M_word_14 {l : Launch} {G : go_G} {ad : Nat → Nat} (hl : l.stackTraces = false) {r : go_R}  (x1 : Int32) (x2 : Int32) (y1 : Int32) (v : go_V) (h : f_M_word_14  x1 x2 y1 v = some r) : Go l G M_M_word go_Ex0 (go_E G ad 1 r 0 0) ad v [(0, .ref (ad (100))), (1, .int x1), (2, .int x2)] 14 [.int y1, .ref (ad (100))] 0 0 := by
  unfold f_M_word_14 at h
  refine go_iload_n (d_M_word 14 rfl) rfl rfl ?_
  refine go_iconst (x := (0 : Int32)) (d_M_word 15 rfl) (by decide) ?_
  refine go_bipush (x := (99 : Int32)) (d_M_word 16 rfl) (by decide) ?_
  obtain ⟨r_1, o_2, h⟩ := bd_some h
  obtain ⟨z_3, h⟩ := nt_some h
  refine go_cS (As := [.int x2, .int ((0 : Int32)), .int ((99 : Int32))]) (rest := [.int y1, .ref (ad (100))]) (st2 := [.int (r_1.2.1), .int y1, .ref (ad (100))]) (c2 := 0) (s2 := 0) rfl rfl rfl rfl (Ca_M_in hl o_2)  (d_M_word 18 rfl) cw_M_73 w_639 ⟨by decide, by decide⟩ rfl (Nat.le_of_ble_eq_true rfl) ⟨by decide, by decide⟩ (fun _ => ?_) (fun q => absurd z_3 q)
  rcases br_some h with ⟨c_4, h⟩ | ⟨c_4, h⟩
  · refine go_if_ne (tgt := 28) (d_M_word 21 rfl) (by decide) (fun q => absurd (of_decide_eq_true c_4) q) (fun _ => ?_)
    refine go_iconst (x := (1 : Int32)) (d_M_word 24 rfl) (by decide) ?_
    refine go_goto (tgt := 29) (d_M_word 25 rfl) (by decide) ?_
    exact b_M_word_29 hl  (x1) (x2) (y1) ((1 : Int32)) (r_1.2.2.2) h
  · refine go_if_ne (tgt := 28) (d_M_word 21 rfl) (by decide) (fun _ => ?_) (fun q => absurd q (of_decide_eq_false c_4))
    refine go_iconst (x := (0 : Int32)) (d_M_word 28 rfl) (by decide) ?_
    exact b_M_word_29 hl  (x1) (x2) (y1) ((0 : Int32)) (r_1.2.2.2) h
def f_M_word (x1 : Int32) (x2 : Int32) (v : go_V) : Option go_R := bd (f_M_isIncident x1 v) (fun r_1 => nt r_1 (br (decide (r_1.2.1 = 0)) (f_M_word_14  (x1) (x2) ((1 : Int32)) (r_1.2.2.2)) (f_M_word_14  (x1) (x2) ((0 : Int32)) (r_1.2.2.2))))
set_option maxHeartbeats 4000000 in
set_option maxRecDepth 100000 in
theorem Ca_M_word {l : Launch} {G : go_G} {ad : Nat → Nat} (hl : l.stackTraces = false) {r : go_R} {x1 : Int32} {x2 : Int32} {v : go_V} (h : f_M_word x1 x2 v = some r) : Ca l G y_M_word (.code y_M_word c_M_word 5 (some .int) :: go_TT) (rmD 3 0) 1 ad [.ref (ad (100)), .int x1, .int x2] v r := by
  unfold f_M_word at h
  refine go_body (own := RM) (by decide) rfl (Nat.le_of_ble_eq_true rfl) ?_
  show Go l G M_M_word go_Ex0 (go_E G ad 1 r 0 0) ad v [(0, .ref (ad (100))), (1, .int x1), (2, .int x2)] 0 [] 0 0
  refine go_aload_n (d_M_word 0 rfl) rfl rfl ?_
  refine go_aload_n (d_M_word 1 rfl) rfl rfl ?_
  refine go_iload_n (d_M_word 2 rfl) rfl rfl ?_
  obtain ⟨r_1, o_2, h⟩ := bd_some h
  obtain ⟨z_3, h⟩ := nt_some h
  refine go_cV (As := [.int x1]) (rest := [.ref (ad (100))]) (st2 := [.int (r_1.2.1), .ref (ad (100))]) (c2 := 0) (s2 := 0) rfl rfl rfl rfl (Ca_M_isIncident hl o_2)  (d_M_word 3 rfl) cw_M_77 ⟨w_664, w_19⟩ rfl (by decide) rfl ⟨by decide, by decide⟩ rfl (Nat.le_of_ble_eq_true rfl) ⟨by decide, by decide⟩ (fun _ => ?_) (fun q => absurd z_3 q)
  rcases br_some h with ⟨c_4, h⟩ | ⟨c_4, h⟩
  · refine go_if_ne (tgt := 13) (d_M_word 6 rfl) (by decide) (fun q => absurd (of_decide_eq_true c_4) q) (fun _ => ?_)
    refine go_iconst (x := (1 : Int32)) (d_M_word 9 rfl) (by decide) ?_
    refine go_goto (tgt := 14) (d_M_word 10 rfl) (by decide) ?_
    exact b_M_word_14 hl  (x1) (x2) ((1 : Int32)) (r_1.2.2.2) h
  · refine go_if_ne (tgt := 13) (d_M_word 6 rfl) (by decide) (fun _ => ?_) (fun q => absurd q (of_decide_eq_false c_4))
    refine go_iconst (x := (0 : Int32)) (d_M_word 13 rfl) (by decide) ?_
    exact b_M_word_14 hl  (x1) (x2) ((0 : Int32)) (r_1.2.2.2) h
abbrev M_M_hurt : go_M := (c_M_hurt, 6, (some .int), RM, [], rmD 3 0)
def f_M_hurt_118 (rec63 : Int32 → Int32 → Int32 → Int32 → Int32 → go_V → Option go_R) (x1 : Int32) (x2 : Int32) (x3 : Int32) (x4 : Int32) (x5 : Int32) (y0 : Int32) (y1 : Int32) (v : go_V) : Option go_R := rec63 (x1) (x2) (x3) ((y0 + y1)) ((x5 + 1)) (v)
set_option maxHeartbeats 4000000 in
set_option maxRecDepth 100000 in
theorem b_M_hurt_118 {l : Launch} {G : go_G} {ad : Nat → Nat} (hl : l.stackTraces = false) {r : go_R} (rec63 : Int32 → Int32 → Int32 → Int32 → Int32 → go_V → Option go_R) (hrec63 : ∀ (x1 : Int32) (x2 : Int32) (x3 : Int32) (x4 : Int32) (x5 : Int32) (v : go_V), rec63 x1 x2 x3 x4 x5 v = some r → Go l G M_M_hurt go_Ex0 (go_E G ad 1 r 0 0) ad v [(0, .ref (ad (100))), (1, .int x1), (2, .int x2), (3, .int x3), (4, .int x4), (5, .int x5)] 63 [] 0 0) (x1 : Int32) (x2 : Int32) (x3 : Int32) (x4 : Int32) (x5 : Int32) (y0 : Int32) (y1 : Int32) (v : go_V) (h : f_M_hurt_118 rec63 x1 x2 x3 x4 x5 y0 y1 v = some r) : Go l G M_M_hurt go_Ex0 (go_E G ad 1 r 0 0) ad v [(0, .ref (ad (100))), (1, .int x1), (2, .int x2), (3, .int x3), (4, .int x4), (5, .int x5)] 118 [.int y1, .int y0] 0 0 := by
  unfold f_M_hurt_118 at h
  refine go_iadd (d_M_hurt 118 rfl) ?_
  refine go_istore (lv' := [(0, .ref (ad (100))), (1, .int x1), (2, .int x2), (3, .int x3), (4, .int ((y0 + y1))), (5, .int x5)]) (d_M_hurt 119 rfl) (by decide) rfl ?_
  refine go_iinc (y := (x5 + 1)) (lv' := [(0, .ref (ad (100))), (1, .int x1), (2, .int x2), (3, .int x3), (4, .int ((y0 + y1))), (5, .int ((x5 + 1)))]) (d_M_hurt 121 rfl) rfl rfl (by decide) rfl ?_
  refine go_goto (tgt := 63) (d_M_hurt 124 rfl) (by decide) ?_
  exact hrec63 (x1) (x2) (x3) ((y0 + y1)) ((x5 + 1)) (v) h
def f_M_hurt_117 (rec63 : Int32 → Int32 → Int32 → Int32 → Int32 → go_V → Option go_R) (x1 : Int32) (x2 : Int32) (x3 : Int32) (x4 : Int32) (x5 : Int32) (y0 : Int32) (v : go_V) : Option go_R := f_M_hurt_118 (rec63) (x1) (x2) (x3) (x4) (x5) (y0) ((0 : Int32)) (v)
set_option maxHeartbeats 4000000 in
set_option maxRecDepth 100000 in
theorem b_M_hurt_117 {l : Launch} {G : go_G} {ad : Nat → Nat} (hl : l.stackTraces = false) {r : go_R} (rec63 : Int32 → Int32 → Int32 → Int32 → Int32 → go_V → Option go_R) (hrec63 : ∀ (x1 : Int32) (x2 : Int32) (x3 : Int32) (x4 : Int32) (x5 : Int32) (v : go_V), rec63 x1 x2 x3 x4 x5 v = some r → Go l G M_M_hurt go_Ex0 (go_E G ad 1 r 0 0) ad v [(0, .ref (ad (100))), (1, .int x1), (2, .int x2), (3, .int x3), (4, .int x4), (5, .int x5)] 63 [] 0 0) (x1 : Int32) (x2 : Int32) (x3 : Int32) (x4 : Int32) (x5 : Int32) (y0 : Int32) (v : go_V) (h : f_M_hurt_117 rec63 x1 x2 x3 x4 x5 y0 v = some r) : Go l G M_M_hurt go_Ex0 (go_E G ad 1 r 0 0) ad v [(0, .ref (ad (100))), (1, .int x1), (2, .int x2), (3, .int x3), (4, .int x4), (5, .int x5)] 117 [.int y0] 0 0 := by
  unfold f_M_hurt_117 at h
  refine go_iconst (x := (0 : Int32)) (d_M_hurt 117 rfl) (by decide) ?_
  exact b_M_hurt_118 hl _ hrec63 (x1) (x2) (x3) (x4) (x5) (y0) ((0 : Int32)) (v) h
def f_M_hurt_63  : Nat → Int32 → Int32 → Int32 → Int32 → Int32 → go_V → Option go_R
  | 0, _, _, _, _, _, _ => none
  | n + 1, x1, x2, x3, x4, x5, v => br (decide ((v 100 4) ≤ x5)) (some (0, x4, 0, v)) (gd (go_in x5 20) (br (decide ((v 102 x5.toNatClampNeg) = (1 : Int32))) (gd (go_in x5 20) (br (decide ((v 103 x5.toNatClampNeg) ≤ x3)) (f_M_hurt_117 (f_M_hurt_63 n) (x1) (x2) (x3) (x4) (x5) (x4) (v)) (gd (go_in x5 20) (br (decide (x2 < (v 103 x5.toNatClampNeg))) (f_M_hurt_117 (f_M_hurt_63 n) (x1) (x2) (x3) (x4) (x5) (x4) (v)) (bd (f_M_act x5 x1 v) (fun r_8 => nt r_8 (f_M_hurt_118 (f_M_hurt_63 n) (x1) (x2) (x3) (x4) (x5) (x4) (r_8.2.1) (r_8.2.2.2)))))))) (f_M_hurt_117 (f_M_hurt_63 n) (x1) (x2) (x3) (x4) (x5) (x4) (v))))
set_option maxHeartbeats 4000000 in
set_option maxRecDepth 100000 in
theorem b_M_hurt_63 {l : Launch} {G : go_G} {ad : Nat → Nat} (hl : l.stackTraces = false) {r : go_R}  : ∀ (n : Nat) (x1 : Int32) (x2 : Int32) (x3 : Int32) (x4 : Int32) (x5 : Int32) (v : go_V), f_M_hurt_63  n x1 x2 x3 x4 x5 v = some r → Go l G M_M_hurt go_Ex0 (go_E G ad 1 r 0 0) ad v [(0, .ref (ad (100))), (1, .int x1), (2, .int x2), (3, .int x3), (4, .int x4), (5, .int x5)] 63 [] 0 0 := by
  intro n
  induction n with
  | zero =>
    intro x1 x2 x3 x4 x5 v h
    cases h
  | succ n ih =>
    intro x1 x2 x3 x4 x5 v h
    rw [f_M_hurt_63] at h
    refine go_iload (d_M_hurt 63 rfl) rfl ?_
    refine go_aload_n (d_M_hurt 65 rfl) rfl rfl ?_
    refine go_getI (d_M_hurt 66 rfl) fl_M_92 rfl rfl ?_
    rcases br_some h with ⟨c_1, h⟩ | ⟨c_1, h⟩
    · refine go_icmp_ge (tgt := 127) (d_M_hurt 69 rfl) (by decide) (fun _ => ?_) (fun q => absurd (of_decide_eq_true c_1) q)
      refine go_iload (d_M_hurt 127 rfl) rfl ?_
      exact go_iret (d_M_hurt 129 rfl) rfl rfl (Option.some.inj h) (by decide) (by decide)
    · refine go_icmp_ge (tgt := 127) (d_M_hurt 69 rfl) (by decide) (fun q => absurd q (of_decide_eq_false c_1)) (fun _ => ?_)
      refine go_iload (d_M_hurt 72 rfl) rfl ?_
      refine go_aload_n (d_M_hurt 74 rfl) rfl rfl ?_
      refine go_getR (d_M_hurt 75 rfl) fl_M_13 rfl rfl ?_
      show Go _ _ _ _ _ _ _ _ _ (.ref (ad (102)) :: .int x4 :: []) _ _
      refine go_iload (d_M_hurt 78 rfl) rfl ?_
      obtain ⟨g_2, h⟩ := gd_some h
      refine go_iald (d_M_hurt 80 rfl) rfl g_2 ?_
      refine go_iconst (x := (1 : Int32)) (d_M_hurt 81 rfl) (by decide) ?_
      rcases br_some h with ⟨c_3, h⟩ | ⟨c_3, h⟩
      · refine go_icmp_ne (tgt := 117) (d_M_hurt 82 rfl) (by decide) (fun q => absurd (of_decide_eq_true c_3) q) (fun _ => ?_)
        refine go_iload_n (d_M_hurt 85 rfl) rfl rfl ?_
        refine go_aload_n (d_M_hurt 86 rfl) rfl rfl ?_
        refine go_getR (d_M_hurt 87 rfl) fl_M_16 rfl rfl ?_
        show Go _ _ _ _ _ _ _ _ _ (.ref (ad (103)) :: .int x3 :: .int x4 :: []) _ _
        refine go_iload (d_M_hurt 90 rfl) rfl ?_
        obtain ⟨g_4, h⟩ := gd_some h
        refine go_iald (d_M_hurt 92 rfl) rfl g_4 ?_
        rcases br_some h with ⟨c_5, h⟩ | ⟨c_5, h⟩
        · refine go_icmp_ge (tgt := 117) (d_M_hurt 93 rfl) (by decide) (fun _ => ?_) (fun q => absurd (of_decide_eq_true c_5) q)
          exact b_M_hurt_117 hl _ ih (x1) (x2) (x3) (x4) (x5) (x4) (v) h
        · refine go_icmp_ge (tgt := 117) (d_M_hurt 93 rfl) (by decide) (fun q => absurd q (of_decide_eq_false c_5)) (fun _ => ?_)
          refine go_iload_n (d_M_hurt 96 rfl) rfl rfl ?_
          refine go_aload_n (d_M_hurt 97 rfl) rfl rfl ?_
          refine go_getR (d_M_hurt 98 rfl) fl_M_16 rfl rfl ?_
          show Go _ _ _ _ _ _ _ _ _ (.ref (ad (103)) :: .int x2 :: .int x4 :: []) _ _
          refine go_iload (d_M_hurt 101 rfl) rfl ?_
          obtain ⟨g_6, h⟩ := gd_some h
          refine go_iald (d_M_hurt 103 rfl) rfl g_6 ?_
          rcases br_some h with ⟨c_7, h⟩ | ⟨c_7, h⟩
          · refine go_icmp_lt (tgt := 117) (d_M_hurt 104 rfl) (by decide) (fun _ => ?_) (fun q => absurd (of_decide_eq_true c_7) q)
            exact b_M_hurt_117 hl _ ih (x1) (x2) (x3) (x4) (x5) (x4) (v) h
          · refine go_icmp_lt (tgt := 117) (d_M_hurt 104 rfl) (by decide) (fun q => absurd q (of_decide_eq_false c_7)) (fun _ => ?_)
            refine go_aload_n (d_M_hurt 107 rfl) rfl rfl ?_
            refine go_iload (d_M_hurt 108 rfl) rfl ?_
            refine go_iload_n (d_M_hurt 110 rfl) rfl rfl ?_
            obtain ⟨r_8, o_9, h⟩ := bd_some h
            obtain ⟨z_10, h⟩ := nt_some h
            refine go_cV (As := [.int x5, .int x1]) (rest := [.int x4]) (st2 := [.int (r_8.2.1), .int x4]) (c2 := 0) (s2 := 0) rfl rfl rfl rfl (Ca_M_act hl o_9)  (d_M_hurt 111 rfl) cw_M_112 ⟨w_689, w_24⟩ rfl (by decide) rfl ⟨by decide, by decide⟩ rfl (Nat.le_of_ble_eq_true rfl) ⟨by decide, by decide⟩ (fun _ => ?_) (fun q => absurd z_10 q)
            refine go_goto (tgt := 118) (d_M_hurt 114 rfl) (by decide) ?_
            exact b_M_hurt_118 hl _ ih (x1) (x2) (x3) (x4) (x5) (x4) (r_8.2.1) (r_8.2.2.2) h
      · refine go_icmp_ne (tgt := 117) (d_M_hurt 82 rfl) (by decide) (fun _ => ?_) (fun q => absurd q (of_decide_eq_false c_3))
        exact b_M_hurt_117 hl _ ih (x1) (x2) (x3) (x4) (x5) (x4) (v) h
def f_M_hurt_30  (x1 : Int32) (x2 : Int32) (y1 : Int32) (y2 : Int32) (v : go_V) : Option go_R := bd (f_M_isClosed x1 v) (fun r_1 => nt r_1 (bd (f_M_throwing y1 y2 r_1.2.1 r_1.2.2.2) (fun r_4 => nt r_4 (br (decide (r_4.2.1 = 0)) (gd (go_in x1 12) (gd (go_in x1 12) (ln (u2 r_4.2.2.2 109 x1.toNatClampNeg x2) (fun v_10 => f_M_hurt_63  FU (x1) (x2) ((r_4.2.2.2 109 x1.toNatClampNeg)) ((0 : Int32)) ((0 : Int32)) (v_10))))) (some (0, (0 : Int32), 0, r_4.2.2.2))))))
set_option maxHeartbeats 4000000 in
set_option maxRecDepth 100000 in
theorem b_M_hurt_30 {l : Launch} {G : go_G} {ad : Nat → Nat} (hl : l.stackTraces = false) {r : go_R}  (x1 : Int32) (x2 : Int32) (y1 : Int32) (y2 : Int32) (v : go_V) (h : f_M_hurt_30  x1 x2 y1 y2 v = some r) : Go l G M_M_hurt go_Ex0 (go_E G ad 1 r 0 0) ad v [(0, .ref (ad (100))), (1, .int x1), (2, .int x2)] 30 [.int y2, .int y1, .ref (ad (100))] 0 0 := by
  unfold f_M_hurt_30 at h
  refine go_aload_n (d_M_hurt 30 rfl) rfl rfl ?_
  refine go_iload_n (d_M_hurt 31 rfl) rfl rfl ?_
  obtain ⟨r_1, o_2, h⟩ := bd_some h
  obtain ⟨z_3, h⟩ := nt_some h
  refine go_cV (As := [.int x1]) (rest := [.int y2, .int y1, .ref (ad (100))]) (st2 := [.int (r_1.2.1), .int y2, .int y1, .ref (ad (100))]) (c2 := 0) (s2 := 0) rfl rfl rfl rfl (Ca_M_isClosed hl o_2)  (d_M_hurt 32 rfl) cw_M_98 ⟨w_668, w_20⟩ rfl (by decide) rfl ⟨by decide, by decide⟩ rfl (Nat.le_of_ble_eq_true rfl) ⟨by decide, by decide⟩ (fun _ => ?_) (fun q => absurd z_3 q)
  obtain ⟨r_4, o_5, h⟩ := bd_some h
  obtain ⟨z_6, h⟩ := nt_some h
  refine go_cV (As := [.int y1, .int y2, .int (r_1.2.1)]) (rest := []) (st2 := [.int (r_4.2.1)]) (c2 := 0) (s2 := 0) rfl rfl rfl rfl (Ca_M_throwing hl o_5)  (d_M_hurt 35 rfl) cw_M_84 ⟨w_643, w_18⟩ rfl (by decide) rfl ⟨by decide, by decide⟩ rfl (Nat.le_of_ble_eq_true rfl) ⟨by decide, by decide⟩ (fun _ => ?_) (fun q => absurd z_6 q)
  rcases br_some h with ⟨c_7, h⟩ | ⟨c_7, h⟩
  · refine go_if_eq (tgt := 43) (d_M_hurt 38 rfl) (by decide) (fun _ => ?_) (fun q => absurd (of_decide_eq_true c_7) q)
    refine go_aload_n (d_M_hurt 43 rfl) rfl rfl ?_
    refine go_getR (d_M_hurt 44 rfl) fl_M_35 rfl rfl ?_
    show Go _ _ _ _ _ _ _ _ _ (.ref (ad (109)) :: []) _ _
    refine go_iload_n (d_M_hurt 47 rfl) rfl rfl ?_
    obtain ⟨g_8, h⟩ := gd_some h
    refine go_iald (d_M_hurt 48 rfl) rfl g_8 ?_
    refine go_istore_n (lv' := [(0, .ref (ad (100))), (1, .int x1), (2, .int x2), (3, .int ((r_4.2.2.2 109 x1.toNatClampNeg)))]) (d_M_hurt 49 rfl) rfl (by decide) rfl ?_
    refine go_aload_n (d_M_hurt 50 rfl) rfl rfl ?_
    refine go_getR (d_M_hurt 51 rfl) fl_M_35 rfl rfl ?_
    show Go _ _ _ _ _ _ _ _ _ (.ref (ad (109)) :: []) _ _
    refine go_iload_n (d_M_hurt 54 rfl) rfl rfl ?_
    refine go_iload_n (d_M_hurt 55 rfl) rfl rfl ?_
    obtain ⟨g_9, h⟩ := gd_some h
    obtain ⟨v_10, ev_10, h⟩ := ln_some h
    refine go_iast (y := x2) (d_M_hurt 56 rfl) rfl g_9 ?_
    rw [← ev_10]
    refine go_iconst (x := (0 : Int32)) (d_M_hurt 57 rfl) (by decide) ?_
    refine go_istore (lv' := [(0, .ref (ad (100))), (1, .int x1), (2, .int x2), (3, .int ((r_4.2.2.2 109 x1.toNatClampNeg))), (4, .int ((0 : Int32)))]) (d_M_hurt 58 rfl) (by decide) rfl ?_
    refine go_iconst (x := (0 : Int32)) (d_M_hurt 60 rfl) (by decide) ?_
    refine go_istore (lv' := [(0, .ref (ad (100))), (1, .int x1), (2, .int x2), (3, .int ((r_4.2.2.2 109 x1.toNatClampNeg))), (4, .int ((0 : Int32))), (5, .int ((0 : Int32)))]) (d_M_hurt 61 rfl) (by decide) rfl ?_
    exact b_M_hurt_63 hl  FU (x1) (x2) ((r_4.2.2.2 109 x1.toNatClampNeg)) ((0 : Int32)) ((0 : Int32)) (v_10) h
  · refine go_if_eq (tgt := 43) (d_M_hurt 38 rfl) (by decide) (fun q => absurd q (of_decide_eq_false c_7)) (fun _ => ?_)
    refine go_iconst (x := (0 : Int32)) (d_M_hurt 41 rfl) (by decide) ?_
    exact go_iret (d_M_hurt 42 rfl) rfl rfl (Option.some.inj h) (by decide) (by decide)
def f_M_hurt_14  (x1 : Int32) (x2 : Int32) (y1 : Int32) (v : go_V) : Option go_R := bd (f_M_in x2 (0 : Int32) (10000 : Int32) v) (fun r_1 => nt r_1 (br (decide (r_1.2.1 = 0)) (f_M_hurt_30  (x1) (x2) (y1) ((1 : Int32)) (r_1.2.2.2)) (f_M_hurt_30  (x1) (x2) (y1) ((0 : Int32)) (r_1.2.2.2))))
set_option maxHeartbeats 4000000 in
set_option maxRecDepth 100000 in
theorem b_M_hurt_14 {l : Launch} {G : go_G} {ad : Nat → Nat} (hl : l.stackTraces = false) {r : go_R}  (x1 : Int32) (x2 : Int32) (y1 : Int32) (v : go_V) (h : f_M_hurt_14  x1 x2 y1 v = some r) : Go l G M_M_hurt go_Ex0 (go_E G ad 1 r 0 0) ad v [(0, .ref (ad (100))), (1, .int x1), (2, .int x2)] 14 [.int y1, .ref (ad (100))] 0 0 := by
  unfold f_M_hurt_14 at h
  refine go_iload_n (d_M_hurt 14 rfl) rfl rfl ?_
  refine go_iconst (x := (0 : Int32)) (d_M_hurt 15 rfl) (by decide) ?_
  refine go_sipush (x := (10000 : Int32)) (d_M_hurt 16 rfl) (by decide) ?_
  obtain ⟨r_1, o_2, h⟩ := bd_some h
  obtain ⟨z_3, h⟩ := nt_some h
  refine go_cS (As := [.int x2, .int ((0 : Int32)), .int ((10000 : Int32))]) (rest := [.int y1, .ref (ad (100))]) (st2 := [.int (r_1.2.1), .int y1, .ref (ad (100))]) (c2 := 0) (s2 := 0) rfl rfl rfl rfl (Ca_M_in hl o_2)  (d_M_hurt 19 rfl) cw_M_73 w_639 ⟨by decide, by decide⟩ rfl (Nat.le_of_ble_eq_true rfl) ⟨by decide, by decide⟩ (fun _ => ?_) (fun q => absurd z_3 q)
  rcases br_some h with ⟨c_4, h⟩ | ⟨c_4, h⟩
  · refine go_if_ne (tgt := 29) (d_M_hurt 22 rfl) (by decide) (fun q => absurd (of_decide_eq_true c_4) q) (fun _ => ?_)
    refine go_iconst (x := (1 : Int32)) (d_M_hurt 25 rfl) (by decide) ?_
    refine go_goto (tgt := 30) (d_M_hurt 26 rfl) (by decide) ?_
    exact b_M_hurt_30 hl  (x1) (x2) (y1) ((1 : Int32)) (r_1.2.2.2) h
  · refine go_if_ne (tgt := 29) (d_M_hurt 22 rfl) (by decide) (fun _ => ?_) (fun q => absurd q (of_decide_eq_false c_4))
    refine go_iconst (x := (0 : Int32)) (d_M_hurt 29 rfl) (by decide) ?_
    exact b_M_hurt_30 hl  (x1) (x2) (y1) ((0 : Int32)) (r_1.2.2.2) h
def f_M_hurt (x1 : Int32) (x2 : Int32) (v : go_V) : Option go_R := bd (f_M_isIncident x1 v) (fun r_1 => nt r_1 (br (decide (r_1.2.1 = 0)) (f_M_hurt_14  (x1) (x2) ((1 : Int32)) (r_1.2.2.2)) (f_M_hurt_14  (x1) (x2) ((0 : Int32)) (r_1.2.2.2))))
set_option maxHeartbeats 4000000 in
set_option maxRecDepth 100000 in
theorem Ca_M_hurt {l : Launch} {G : go_G} {ad : Nat → Nat} (hl : l.stackTraces = false) {r : go_R} {x1 : Int32} {x2 : Int32} {v : go_V} (h : f_M_hurt x1 x2 v = some r) : Ca l G y_M_hurt (.code y_M_hurt c_M_hurt 6 (some .int) :: go_TT) (rmD 3 0) 1 ad [.ref (ad (100)), .int x1, .int x2] v r := by
  unfold f_M_hurt at h
  refine go_body (own := RM) (by decide) rfl (Nat.le_of_ble_eq_true rfl) ?_
  show Go l G M_M_hurt go_Ex0 (go_E G ad 1 r 0 0) ad v [(0, .ref (ad (100))), (1, .int x1), (2, .int x2)] 0 [] 0 0
  refine go_aload_n (d_M_hurt 0 rfl) rfl rfl ?_
  refine go_aload_n (d_M_hurt 1 rfl) rfl rfl ?_
  refine go_iload_n (d_M_hurt 2 rfl) rfl rfl ?_
  obtain ⟨r_1, o_2, h⟩ := bd_some h
  obtain ⟨z_3, h⟩ := nt_some h
  refine go_cV (As := [.int x1]) (rest := [.ref (ad (100))]) (st2 := [.int (r_1.2.1), .ref (ad (100))]) (c2 := 0) (s2 := 0) rfl rfl rfl rfl (Ca_M_isIncident hl o_2)  (d_M_hurt 3 rfl) cw_M_77 ⟨w_664, w_19⟩ rfl (by decide) rfl ⟨by decide, by decide⟩ rfl (Nat.le_of_ble_eq_true rfl) ⟨by decide, by decide⟩ (fun _ => ?_) (fun q => absurd z_3 q)
  rcases br_some h with ⟨c_4, h⟩ | ⟨c_4, h⟩
  · refine go_if_ne (tgt := 13) (d_M_hurt 6 rfl) (by decide) (fun q => absurd (of_decide_eq_true c_4) q) (fun _ => ?_)
    refine go_iconst (x := (1 : Int32)) (d_M_hurt 9 rfl) (by decide) ?_
    refine go_goto (tgt := 14) (d_M_hurt 10 rfl) (by decide) ?_
    exact b_M_hurt_14 hl  (x1) (x2) ((1 : Int32)) (r_1.2.2.2) h
  · refine go_if_ne (tgt := 13) (d_M_hurt 6 rfl) (by decide) (fun _ => ?_) (fun q => absurd q (of_decide_eq_false c_4))
    refine go_iconst (x := (0 : Int32)) (d_M_hurt 13 rfl) (by decide) ?_
    exact b_M_hurt_14 hl  (x1) (x2) ((0 : Int32)) (r_1.2.2.2) h
abbrev M_M_ask : go_M := (c_M_ask, 3, (some .int), RM, [], rmD 3 0)
def f_M_ask_29  (x1 : Int32) (x2 : Int32) (y1 : Int32) (y2 : Int32) (v : go_V) : Option go_R := bd (f_M_isClosed x1 v) (fun r_1 => nt r_1 (bd (f_M_throwing y1 y2 r_1.2.1 r_1.2.2.2) (fun r_4 => nt r_4 (br (decide (r_4.2.1 = 0)) (bd (f_M_all (3 : Int32) x2 x1 r_4.2.2.2) (fun r_8 => nt r_8 (some (0, r_8.2.1, 0, r_8.2.2.2)))) (some (0, (0 : Int32), 0, r_4.2.2.2))))))
set_option maxHeartbeats 4000000 in
set_option maxRecDepth 100000 in
theorem b_M_ask_29 {l : Launch} {G : go_G} {ad : Nat → Nat} (hl : l.stackTraces = false) {r : go_R}  (x1 : Int32) (x2 : Int32) (y1 : Int32) (y2 : Int32) (v : go_V) (h : f_M_ask_29  x1 x2 y1 y2 v = some r) : Go l G M_M_ask go_Ex0 (go_E G ad 1 r 0 0) ad v [(0, .ref (ad (100))), (1, .int x1), (2, .int x2)] 29 [.int y2, .int y1, .ref (ad (100))] 0 0 := by
  unfold f_M_ask_29 at h
  refine go_aload_n (d_M_ask 29 rfl) rfl rfl ?_
  refine go_iload_n (d_M_ask 30 rfl) rfl rfl ?_
  obtain ⟨r_1, o_2, h⟩ := bd_some h
  obtain ⟨z_3, h⟩ := nt_some h
  refine go_cV (As := [.int x1]) (rest := [.int y2, .int y1, .ref (ad (100))]) (st2 := [.int (r_1.2.1), .int y2, .int y1, .ref (ad (100))]) (c2 := 0) (s2 := 0) rfl rfl rfl rfl (Ca_M_isClosed hl o_2)  (d_M_ask 31 rfl) cw_M_98 ⟨w_668, w_20⟩ rfl (by decide) rfl ⟨by decide, by decide⟩ rfl (Nat.le_of_ble_eq_true rfl) ⟨by decide, by decide⟩ (fun _ => ?_) (fun q => absurd z_3 q)
  obtain ⟨r_4, o_5, h⟩ := bd_some h
  obtain ⟨z_6, h⟩ := nt_some h
  refine go_cV (As := [.int y1, .int y2, .int (r_1.2.1)]) (rest := []) (st2 := [.int (r_4.2.1)]) (c2 := 0) (s2 := 0) rfl rfl rfl rfl (Ca_M_throwing hl o_5)  (d_M_ask 34 rfl) cw_M_84 ⟨w_643, w_18⟩ rfl (by decide) rfl ⟨by decide, by decide⟩ rfl (Nat.le_of_ble_eq_true rfl) ⟨by decide, by decide⟩ (fun _ => ?_) (fun q => absurd z_6 q)
  rcases br_some h with ⟨c_7, h⟩ | ⟨c_7, h⟩
  · refine go_if_eq (tgt := 42) (d_M_ask 37 rfl) (by decide) (fun _ => ?_) (fun q => absurd (of_decide_eq_true c_7) q)
    refine go_aload_n (d_M_ask 42 rfl) rfl rfl ?_
    refine go_iconst (x := (3 : Int32)) (d_M_ask 43 rfl) (by decide) ?_
    refine go_iload_n (d_M_ask 44 rfl) rfl rfl ?_
    refine go_iload_n (d_M_ask 45 rfl) rfl rfl ?_
    obtain ⟨r_8, o_9, h⟩ := bd_some h
    obtain ⟨z_10, h⟩ := nt_some h
    refine go_cV (As := [.int ((3 : Int32)), .int x2, .int x1]) (rest := []) (st2 := [.int (r_8.2.1)]) (c2 := 0) (s2 := 0) rfl rfl rfl rfl (Ca_M_all hl o_9)  (d_M_ask 46 rfl) cw_M_117 ⟨w_685, w_23⟩ rfl (by decide) rfl ⟨by decide, by decide⟩ rfl (Nat.le_of_ble_eq_true rfl) ⟨by decide, by decide⟩ (fun _ => ?_) (fun q => absurd z_10 q)
    exact go_iret (d_M_ask 49 rfl) rfl rfl (Option.some.inj h) (by decide) (by decide)
  · refine go_if_eq (tgt := 42) (d_M_ask 37 rfl) (by decide) (fun q => absurd q (of_decide_eq_false c_7)) (fun _ => ?_)
    refine go_iconst (x := (0 : Int32)) (d_M_ask 40 rfl) (by decide) ?_
    exact go_iret (d_M_ask 41 rfl) rfl rfl (Option.some.inj h) (by decide) (by decide)
def f_M_ask_14  (x1 : Int32) (x2 : Int32) (y1 : Int32) (v : go_V) : Option go_R := bd (f_M_in x2 (0 : Int32) (9 : Int32) v) (fun r_1 => nt r_1 (br (decide (r_1.2.1 = 0)) (f_M_ask_29  (x1) (x2) (y1) ((1 : Int32)) (r_1.2.2.2)) (f_M_ask_29  (x1) (x2) (y1) ((0 : Int32)) (r_1.2.2.2))))
set_option maxHeartbeats 4000000 in
set_option maxRecDepth 100000 in
theorem b_M_ask_14 {l : Launch} {G : go_G} {ad : Nat → Nat} (hl : l.stackTraces = false) {r : go_R}  (x1 : Int32) (x2 : Int32) (y1 : Int32) (v : go_V) (h : f_M_ask_14  x1 x2 y1 v = some r) : Go l G M_M_ask go_Ex0 (go_E G ad 1 r 0 0) ad v [(0, .ref (ad (100))), (1, .int x1), (2, .int x2)] 14 [.int y1, .ref (ad (100))] 0 0 := by
  unfold f_M_ask_14 at h
  refine go_iload_n (d_M_ask 14 rfl) rfl rfl ?_
  refine go_iconst (x := (0 : Int32)) (d_M_ask 15 rfl) (by decide) ?_
  refine go_bipush (x := (9 : Int32)) (d_M_ask 16 rfl) (by decide) ?_
  obtain ⟨r_1, o_2, h⟩ := bd_some h
  obtain ⟨z_3, h⟩ := nt_some h
  refine go_cS (As := [.int x2, .int ((0 : Int32)), .int ((9 : Int32))]) (rest := [.int y1, .ref (ad (100))]) (st2 := [.int (r_1.2.1), .int y1, .ref (ad (100))]) (c2 := 0) (s2 := 0) rfl rfl rfl rfl (Ca_M_in hl o_2)  (d_M_ask 18 rfl) cw_M_73 w_639 ⟨by decide, by decide⟩ rfl (Nat.le_of_ble_eq_true rfl) ⟨by decide, by decide⟩ (fun _ => ?_) (fun q => absurd z_3 q)
  rcases br_some h with ⟨c_4, h⟩ | ⟨c_4, h⟩
  · refine go_if_ne (tgt := 28) (d_M_ask 21 rfl) (by decide) (fun q => absurd (of_decide_eq_true c_4) q) (fun _ => ?_)
    refine go_iconst (x := (1 : Int32)) (d_M_ask 24 rfl) (by decide) ?_
    refine go_goto (tgt := 29) (d_M_ask 25 rfl) (by decide) ?_
    exact b_M_ask_29 hl  (x1) (x2) (y1) ((1 : Int32)) (r_1.2.2.2) h
  · refine go_if_ne (tgt := 28) (d_M_ask 21 rfl) (by decide) (fun _ => ?_) (fun q => absurd q (of_decide_eq_false c_4))
    refine go_iconst (x := (0 : Int32)) (d_M_ask 28 rfl) (by decide) ?_
    exact b_M_ask_29 hl  (x1) (x2) (y1) ((0 : Int32)) (r_1.2.2.2) h
def f_M_ask (x1 : Int32) (x2 : Int32) (v : go_V) : Option go_R := bd (f_M_isIncident x1 v) (fun r_1 => nt r_1 (br (decide (r_1.2.1 = 0)) (f_M_ask_14  (x1) (x2) ((1 : Int32)) (r_1.2.2.2)) (f_M_ask_14  (x1) (x2) ((0 : Int32)) (r_1.2.2.2))))
set_option maxHeartbeats 4000000 in
set_option maxRecDepth 100000 in
theorem Ca_M_ask {l : Launch} {G : go_G} {ad : Nat → Nat} (hl : l.stackTraces = false) {r : go_R} {x1 : Int32} {x2 : Int32} {v : go_V} (h : f_M_ask x1 x2 v = some r) : Ca l G y_M_ask (.code y_M_ask c_M_ask 3 (some .int) :: go_TT) (rmD 3 0) 1 ad [.ref (ad (100)), .int x1, .int x2] v r := by
  unfold f_M_ask at h
  refine go_body (own := RM) (by decide) rfl (Nat.le_of_ble_eq_true rfl) ?_
  show Go l G M_M_ask go_Ex0 (go_E G ad 1 r 0 0) ad v [(0, .ref (ad (100))), (1, .int x1), (2, .int x2)] 0 [] 0 0
  refine go_aload_n (d_M_ask 0 rfl) rfl rfl ?_
  refine go_aload_n (d_M_ask 1 rfl) rfl rfl ?_
  refine go_iload_n (d_M_ask 2 rfl) rfl rfl ?_
  obtain ⟨r_1, o_2, h⟩ := bd_some h
  obtain ⟨z_3, h⟩ := nt_some h
  refine go_cV (As := [.int x1]) (rest := [.ref (ad (100))]) (st2 := [.int (r_1.2.1), .ref (ad (100))]) (c2 := 0) (s2 := 0) rfl rfl rfl rfl (Ca_M_isIncident hl o_2)  (d_M_ask 3 rfl) cw_M_77 ⟨w_664, w_19⟩ rfl (by decide) rfl ⟨by decide, by decide⟩ rfl (Nat.le_of_ble_eq_true rfl) ⟨by decide, by decide⟩ (fun _ => ?_) (fun q => absurd z_3 q)
  rcases br_some h with ⟨c_4, h⟩ | ⟨c_4, h⟩
  · refine go_if_ne (tgt := 13) (d_M_ask 6 rfl) (by decide) (fun q => absurd (of_decide_eq_true c_4) q) (fun _ => ?_)
    refine go_iconst (x := (1 : Int32)) (d_M_ask 9 rfl) (by decide) ?_
    refine go_goto (tgt := 14) (d_M_ask 10 rfl) (by decide) ?_
    exact b_M_ask_14 hl  (x1) (x2) ((1 : Int32)) (r_1.2.2.2) h
  · refine go_if_ne (tgt := 13) (d_M_ask 6 rfl) (by decide) (fun _ => ?_) (fun q => absurd q (of_decide_eq_false c_4))
    refine go_iconst (x := (0 : Int32)) (d_M_ask 13 rfl) (by decide) ?_
    exact b_M_ask_14 hl  (x1) (x2) ((0 : Int32)) (r_1.2.2.2) h
abbrev M_M_tell : go_M := (c_M_tell, 2, none, RM, [], rmD 3 0)
def f_M_tell_14  (x1 : Int32) (y1 : Int32) (v : go_V) : Option go_R := bd (f_M_isClosed x1 v) (fun r_1 => nt r_1 (bd (f_M_throwing y1 r_1.2.1 (0 : Int32) r_1.2.2.2) (fun r_4 => nt r_4 (br (decide (r_4.2.1 = 0)) (gd (go_in x1 12) (ln (u2 r_4.2.2.2 110 x1.toNatClampNeg (r_4.2.2.2 100 1)) (fun v_9 => some (0, 0, 0, v_9)))) (some (0, 0, 0, r_4.2.2.2))))))
set_option maxHeartbeats 4000000 in
set_option maxRecDepth 100000 in
theorem b_M_tell_14 {l : Launch} {G : go_G} {ad : Nat → Nat} (hl : l.stackTraces = false) {r : go_R}  (x1 : Int32) (y1 : Int32) (v : go_V) (h : f_M_tell_14  x1 y1 v = some r) : Go l G M_M_tell go_Ex0 (go_E G ad 0 r 0 0) ad v [(0, .ref (ad (100))), (1, .int x1)] 14 [.int y1, .ref (ad (100))] 0 0 := by
  unfold f_M_tell_14 at h
  refine go_aload_n (d_M_tell 14 rfl) rfl rfl ?_
  refine go_iload_n (d_M_tell 15 rfl) rfl rfl ?_
  obtain ⟨r_1, o_2, h⟩ := bd_some h
  obtain ⟨z_3, h⟩ := nt_some h
  refine go_cV (As := [.int x1]) (rest := [.int y1, .ref (ad (100))]) (st2 := [.int (r_1.2.1), .int y1, .ref (ad (100))]) (c2 := 0) (s2 := 0) rfl rfl rfl rfl (Ca_M_isClosed hl o_2)  (d_M_tell 16 rfl) cw_M_98 ⟨w_668, w_20⟩ rfl (by decide) rfl ⟨by decide, by decide⟩ rfl (Nat.le_of_ble_eq_true rfl) ⟨by decide, by decide⟩ (fun _ => ?_) (fun q => absurd z_3 q)
  refine go_iconst (x := (0 : Int32)) (d_M_tell 19 rfl) (by decide) ?_
  obtain ⟨r_4, o_5, h⟩ := bd_some h
  obtain ⟨z_6, h⟩ := nt_some h
  refine go_cV (As := [.int y1, .int (r_1.2.1), .int ((0 : Int32))]) (rest := []) (st2 := [.int (r_4.2.1)]) (c2 := 0) (s2 := 0) rfl rfl rfl rfl (Ca_M_throwing hl o_5)  (d_M_tell 20 rfl) cw_M_84 ⟨w_643, w_18⟩ rfl (by decide) rfl ⟨by decide, by decide⟩ rfl (Nat.le_of_ble_eq_true rfl) ⟨by decide, by decide⟩ (fun _ => ?_) (fun q => absurd z_6 q)
  rcases br_some h with ⟨c_7, h⟩ | ⟨c_7, h⟩
  · refine go_if_eq (tgt := 27) (d_M_tell 23 rfl) (by decide) (fun _ => ?_) (fun q => absurd (of_decide_eq_true c_7) q)
    refine go_aload_n (d_M_tell 27 rfl) rfl rfl ?_
    refine go_getR (d_M_tell 28 rfl) fl_M_38 rfl rfl ?_
    show Go _ _ _ _ _ _ _ _ _ (.ref (ad (110)) :: []) _ _
    refine go_iload_n (d_M_tell 31 rfl) rfl rfl ?_
    refine go_aload_n (d_M_tell 32 rfl) rfl rfl ?_
    refine go_getI (d_M_tell 33 rfl) fl_M_95 rfl rfl ?_
    obtain ⟨g_8, h⟩ := gd_some h
    obtain ⟨v_9, ev_9, h⟩ := ln_some h
    refine go_iast (y := (r_4.2.2.2 100 1)) (d_M_tell 36 rfl) rfl g_8 ?_
    rw [← ev_9]
    exact go_vret (d_M_tell 37 rfl) rfl (Option.some.inj h) (by decide) (by decide)
  · refine go_if_eq (tgt := 27) (d_M_tell 23 rfl) (by decide) (fun q => absurd q (of_decide_eq_false c_7)) (fun _ => ?_)
    exact go_vret (d_M_tell 26 rfl) rfl (Option.some.inj h) (by decide) (by decide)
def f_M_tell (x1 : Int32) (v : go_V) : Option go_R := bd (f_M_isIncident x1 v) (fun r_1 => nt r_1 (br (decide (r_1.2.1 = 0)) (f_M_tell_14  (x1) ((1 : Int32)) (r_1.2.2.2)) (f_M_tell_14  (x1) ((0 : Int32)) (r_1.2.2.2))))
set_option maxHeartbeats 4000000 in
set_option maxRecDepth 100000 in
theorem Ca_M_tell {l : Launch} {G : go_G} {ad : Nat → Nat} (hl : l.stackTraces = false) {r : go_R} {x1 : Int32} {v : go_V} (h : f_M_tell x1 v = some r) : Ca l G y_M_tell (.code y_M_tell c_M_tell 2 none :: go_TT) (rmD 3 0) 0 ad [.ref (ad (100)), .int x1] v r := by
  unfold f_M_tell at h
  refine go_body (own := RM) (by decide) rfl (Nat.le_of_ble_eq_true rfl) ?_
  show Go l G M_M_tell go_Ex0 (go_E G ad 0 r 0 0) ad v [(0, .ref (ad (100))), (1, .int x1)] 0 [] 0 0
  refine go_aload_n (d_M_tell 0 rfl) rfl rfl ?_
  refine go_aload_n (d_M_tell 1 rfl) rfl rfl ?_
  refine go_iload_n (d_M_tell 2 rfl) rfl rfl ?_
  obtain ⟨r_1, o_2, h⟩ := bd_some h
  obtain ⟨z_3, h⟩ := nt_some h
  refine go_cV (As := [.int x1]) (rest := [.ref (ad (100))]) (st2 := [.int (r_1.2.1), .ref (ad (100))]) (c2 := 0) (s2 := 0) rfl rfl rfl rfl (Ca_M_isIncident hl o_2)  (d_M_tell 3 rfl) cw_M_77 ⟨w_664, w_19⟩ rfl (by decide) rfl ⟨by decide, by decide⟩ rfl (Nat.le_of_ble_eq_true rfl) ⟨by decide, by decide⟩ (fun _ => ?_) (fun q => absurd z_3 q)
  rcases br_some h with ⟨c_4, h⟩ | ⟨c_4, h⟩
  · refine go_if_ne (tgt := 13) (d_M_tell 6 rfl) (by decide) (fun q => absurd (of_decide_eq_true c_4) q) (fun _ => ?_)
    refine go_iconst (x := (1 : Int32)) (d_M_tell 9 rfl) (by decide) ?_
    refine go_goto (tgt := 14) (d_M_tell 10 rfl) (by decide) ?_
    exact b_M_tell_14 hl  (x1) ((1 : Int32)) (r_1.2.2.2) h
  · refine go_if_ne (tgt := 13) (d_M_tell 6 rfl) (by decide) (fun _ => ?_) (fun q => absurd q (of_decide_eq_false c_4))
    refine go_iconst (x := (0 : Int32)) (d_M_tell 13 rfl) (by decide) ?_
    exact b_M_tell_14 hl  (x1) ((0 : Int32)) (r_1.2.2.2) h
abbrev M_M_withSkill : go_M := (c_M_withSkill, 5, (some .int), RM, [], rmD 1 0)
def f_M_withSkill_41 (rec5 : Int32 → Int32 → Int32 → Int32 → go_V → Option go_R) (x1 : Int32) (x2 : Int32) (x3 : Int32) (x4 : Int32) (y0 : Int32) (y1 : Int32) (v : go_V) : Option go_R := rec5 (x1) (x2) ((y0 + y1)) ((x4 + 1)) (v)
set_option maxHeartbeats 4000000 in
set_option maxRecDepth 100000 in
theorem b_M_withSkill_41 {l : Launch} {G : go_G} {ad : Nat → Nat} (hl : l.stackTraces = false) {r : go_R} (rec5 : Int32 → Int32 → Int32 → Int32 → go_V → Option go_R) (hrec5 : ∀ (x1 : Int32) (x2 : Int32) (x3 : Int32) (x4 : Int32) (v : go_V), rec5 x1 x2 x3 x4 v = some r → Go l G M_M_withSkill go_Ex0 (go_E G ad 1 r 0 0) ad v [(0, .ref (ad (100))), (1, .int x1), (2, .int x2), (3, .int x3), (4, .int x4)] 5 [] 0 0) (x1 : Int32) (x2 : Int32) (x3 : Int32) (x4 : Int32) (y0 : Int32) (y1 : Int32) (v : go_V) (h : f_M_withSkill_41 rec5 x1 x2 x3 x4 y0 y1 v = some r) : Go l G M_M_withSkill go_Ex0 (go_E G ad 1 r 0 0) ad v [(0, .ref (ad (100))), (1, .int x1), (2, .int x2), (3, .int x3), (4, .int x4)] 41 [.int y1, .int y0] 0 0 := by
  unfold f_M_withSkill_41 at h
  refine go_iadd (d_M_withSkill 41 rfl) ?_
  refine go_istore_n (lv' := [(0, .ref (ad (100))), (1, .int x1), (2, .int x2), (3, .int ((y0 + y1))), (4, .int x4)]) (d_M_withSkill 42 rfl) rfl (by decide) rfl ?_
  refine go_iinc (y := (x4 + 1)) (lv' := [(0, .ref (ad (100))), (1, .int x1), (2, .int x2), (3, .int ((y0 + y1))), (4, .int ((x4 + 1)))]) (d_M_withSkill 43 rfl) rfl rfl (by decide) rfl ?_
  refine go_goto (tgt := 5) (d_M_withSkill 46 rfl) (by decide) ?_
  exact hrec5 (x1) (x2) ((y0 + y1)) ((x4 + 1)) (v) h
def f_M_withSkill_40 (rec5 : Int32 → Int32 → Int32 → Int32 → go_V → Option go_R) (x1 : Int32) (x2 : Int32) (x3 : Int32) (x4 : Int32) (y0 : Int32) (v : go_V) : Option go_R := f_M_withSkill_41 (rec5) (x1) (x2) (x3) (x4) (y0) ((0 : Int32)) (v)
set_option maxHeartbeats 4000000 in
set_option maxRecDepth 100000 in
theorem b_M_withSkill_40 {l : Launch} {G : go_G} {ad : Nat → Nat} (hl : l.stackTraces = false) {r : go_R} (rec5 : Int32 → Int32 → Int32 → Int32 → go_V → Option go_R) (hrec5 : ∀ (x1 : Int32) (x2 : Int32) (x3 : Int32) (x4 : Int32) (v : go_V), rec5 x1 x2 x3 x4 v = some r → Go l G M_M_withSkill go_Ex0 (go_E G ad 1 r 0 0) ad v [(0, .ref (ad (100))), (1, .int x1), (2, .int x2), (3, .int x3), (4, .int x4)] 5 [] 0 0) (x1 : Int32) (x2 : Int32) (x3 : Int32) (x4 : Int32) (y0 : Int32) (v : go_V) (h : f_M_withSkill_40 rec5 x1 x2 x3 x4 y0 v = some r) : Go l G M_M_withSkill go_Ex0 (go_E G ad 1 r 0 0) ad v [(0, .ref (ad (100))), (1, .int x1), (2, .int x2), (3, .int x3), (4, .int x4)] 40 [.int y0] 0 0 := by
  unfold f_M_withSkill_40 at h
  refine go_iconst (x := (0 : Int32)) (d_M_withSkill 40 rfl) (by decide) ?_
  exact b_M_withSkill_41 hl _ hrec5 (x1) (x2) (x3) (x4) (y0) ((0 : Int32)) (v) h
def f_M_withSkill_5  : Nat → Int32 → Int32 → Int32 → Int32 → go_V → Option go_R
  | 0, _, _, _, _, _ => none
  | n + 1, x1, x2, x3, x4, v => br (decide ((v 100 19) ≤ x4)) (some (0, x3, 0, v)) (bd (f_M_isWith x4 x1 v) (fun r_2 => nt r_2 (br (decide (r_2.2.1 = 0)) (f_M_withSkill_40 (f_M_withSkill_5 n) (x1) (x2) (x3) (x4) (x3) (r_2.2.2.2)) (gd (go_in x4 40) (br (decide ((r_2.2.2.2 115 x4.toNatClampNeg) = x2)) (f_M_withSkill_41 (f_M_withSkill_5 n) (x1) (x2) (x3) (x4) (x3) ((1 : Int32)) (r_2.2.2.2)) (f_M_withSkill_40 (f_M_withSkill_5 n) (x1) (x2) (x3) (x4) (x3) (r_2.2.2.2)))))))
set_option maxHeartbeats 4000000 in
set_option maxRecDepth 100000 in
theorem b_M_withSkill_5 {l : Launch} {G : go_G} {ad : Nat → Nat} (hl : l.stackTraces = false) {r : go_R}  : ∀ (n : Nat) (x1 : Int32) (x2 : Int32) (x3 : Int32) (x4 : Int32) (v : go_V), f_M_withSkill_5  n x1 x2 x3 x4 v = some r → Go l G M_M_withSkill go_Ex0 (go_E G ad 1 r 0 0) ad v [(0, .ref (ad (100))), (1, .int x1), (2, .int x2), (3, .int x3), (4, .int x4)] 5 [] 0 0 := by
  intro n
  induction n with
  | zero =>
    intro x1 x2 x3 x4 v h
    cases h
  | succ n ih =>
    intro x1 x2 x3 x4 v h
    rw [f_M_withSkill_5] at h
    refine go_iload (d_M_withSkill 5 rfl) rfl ?_
    refine go_aload_n (d_M_withSkill 7 rfl) rfl rfl ?_
    refine go_getI (d_M_withSkill 8 rfl) fl_M_81 rfl rfl ?_
    rcases br_some h with ⟨c_1, h⟩ | ⟨c_1, h⟩
    · refine go_icmp_ge (tgt := 49) (d_M_withSkill 11 rfl) (by decide) (fun _ => ?_) (fun q => absurd (of_decide_eq_true c_1) q)
      refine go_iload_n (d_M_withSkill 49 rfl) rfl rfl ?_
      exact go_iret (d_M_withSkill 50 rfl) rfl rfl (Option.some.inj h) (by decide) (by decide)
    · refine go_icmp_ge (tgt := 49) (d_M_withSkill 11 rfl) (by decide) (fun q => absurd q (of_decide_eq_false c_1)) (fun _ => ?_)
      refine go_iload_n (d_M_withSkill 14 rfl) rfl rfl ?_
      refine go_aload_n (d_M_withSkill 15 rfl) rfl rfl ?_
      refine go_iload (d_M_withSkill 16 rfl) rfl ?_
      refine go_iload_n (d_M_withSkill 18 rfl) rfl rfl ?_
      obtain ⟨r_2, o_3, h⟩ := bd_some h
      obtain ⟨z_4, h⟩ := nt_some h
      refine go_cV (As := [.int x4, .int x1]) (rest := [.int x3]) (st2 := [.int (r_2.2.1), .int x3]) (c2 := 0) (s2 := 0) rfl rfl rfl rfl (Ca_M_isWith hl o_3)  (d_M_withSkill 19 rfl) cw_M_101 ⟨w_672, w_21⟩ rfl (by decide) rfl ⟨by decide, by decide⟩ rfl (Nat.le_of_ble_eq_true rfl) ⟨by decide, by decide⟩ (fun _ => ?_) (fun q => absurd z_4 q)
      rcases br_some h with ⟨c_5, h⟩ | ⟨c_5, h⟩
      · refine go_if_eq (tgt := 40) (d_M_withSkill 22 rfl) (by decide) (fun _ => ?_) (fun q => absurd (of_decide_eq_true c_5) q)
        exact b_M_withSkill_40 hl _ ih (x1) (x2) (x3) (x4) (x3) (r_2.2.2.2) h
      · refine go_if_eq (tgt := 40) (d_M_withSkill 22 rfl) (by decide) (fun q => absurd q (of_decide_eq_false c_5)) (fun _ => ?_)
        refine go_aload_n (d_M_withSkill 25 rfl) rfl rfl ?_
        refine go_getR (d_M_withSkill 26 rfl) fl_M_53 rfl rfl ?_
        show Go _ _ _ _ _ _ _ _ _ (.ref (ad (115)) :: .int x3 :: []) _ _
        refine go_iload (d_M_withSkill 29 rfl) rfl ?_
        obtain ⟨g_6, h⟩ := gd_some h
        refine go_iald (d_M_withSkill 31 rfl) rfl g_6 ?_
        refine go_iload_n (d_M_withSkill 32 rfl) rfl rfl ?_
        rcases br_some h with ⟨c_7, h⟩ | ⟨c_7, h⟩
        · refine go_icmp_ne (tgt := 40) (d_M_withSkill 33 rfl) (by decide) (fun q => absurd (of_decide_eq_true c_7) q) (fun _ => ?_)
          refine go_iconst (x := (1 : Int32)) (d_M_withSkill 36 rfl) (by decide) ?_
          refine go_goto (tgt := 41) (d_M_withSkill 37 rfl) (by decide) ?_
          exact b_M_withSkill_41 hl _ ih (x1) (x2) (x3) (x4) (x3) ((1 : Int32)) (r_2.2.2.2) h
        · refine go_icmp_ne (tgt := 40) (d_M_withSkill 33 rfl) (by decide) (fun _ => ?_) (fun q => absurd q (of_decide_eq_false c_7))
          exact b_M_withSkill_40 hl _ ih (x1) (x2) (x3) (x4) (x3) (r_2.2.2.2) h
def f_M_withSkill (x1 : Int32) (x2 : Int32) (v : go_V) : Option go_R := f_M_withSkill_5  FU (x1) (x2) ((0 : Int32)) ((0 : Int32)) (v)
set_option maxHeartbeats 4000000 in
set_option maxRecDepth 100000 in
theorem Ca_M_withSkill {l : Launch} {G : go_G} {ad : Nat → Nat} (hl : l.stackTraces = false) {r : go_R} {x1 : Int32} {x2 : Int32} {v : go_V} (h : f_M_withSkill x1 x2 v = some r) : Ca l G y_M_withSkill (.code y_M_withSkill c_M_withSkill 5 (some .int) :: go_TT) (rmD 1 0) 1 ad [.ref (ad (100)), .int x1, .int x2] v r := by
  unfold f_M_withSkill at h
  refine go_body (own := RM) (by decide) rfl (Nat.le_of_ble_eq_true rfl) ?_
  show Go l G M_M_withSkill go_Ex0 (go_E G ad 1 r 0 0) ad v [(0, .ref (ad (100))), (1, .int x1), (2, .int x2)] 0 [] 0 0
  refine go_iconst (x := (0 : Int32)) (d_M_withSkill 0 rfl) (by decide) ?_
  refine go_istore_n (lv' := [(0, .ref (ad (100))), (1, .int x1), (2, .int x2), (3, .int ((0 : Int32)))]) (d_M_withSkill 1 rfl) rfl (by decide) rfl ?_
  refine go_iconst (x := (0 : Int32)) (d_M_withSkill 2 rfl) (by decide) ?_
  refine go_istore (lv' := [(0, .ref (ad (100))), (1, .int x1), (2, .int x2), (3, .int ((0 : Int32))), (4, .int ((0 : Int32)))]) (d_M_withSkill 3 rfl) (by decide) rfl ?_
  exact b_M_withSkill_5 hl  FU (x1) (x2) ((0 : Int32)) ((0 : Int32)) (v) h
abbrev M_M_goesAhead : go_M := (c_M_goesAhead, 3, (some .boolean), RM, [], rmD 0 0)
def f_M_goesAhead_66  (x1 : Int32) (x2 : Int32) (v : go_V) : Option go_R := some (0, (1 : Int32), 0, v)
set_option maxHeartbeats 4000000 in
set_option maxRecDepth 100000 in
theorem b_M_goesAhead_66 {l : Launch} {G : go_G} {ad : Nat → Nat} (hl : l.stackTraces = false) {r : go_R}  (x1 : Int32) (x2 : Int32) (v : go_V) (h : f_M_goesAhead_66  x1 x2 v = some r) : Go l G M_M_goesAhead go_Ex0 (go_E G ad 1 r 0 0) ad v [(0, .ref (ad (100))), (1, .int x1), (2, .int x2)] 66 [] 0 0 := by
  unfold f_M_goesAhead_66 at h
  refine go_iconst (x := (1 : Int32)) (d_M_goesAhead 66 rfl) (by decide) ?_
  refine go_goto (tgt := 71) (d_M_goesAhead 67 rfl) (by decide) ?_
  exact go_iret (d_M_goesAhead 71 rfl) rfl (by decide) (Option.some.inj h) (by decide) (by decide)
def f_M_goesAhead_70  (x1 : Int32) (x2 : Int32) (v : go_V) : Option go_R := some (0, (0 : Int32), 0, v)
set_option maxHeartbeats 4000000 in
set_option maxRecDepth 100000 in
theorem b_M_goesAhead_70 {l : Launch} {G : go_G} {ad : Nat → Nat} (hl : l.stackTraces = false) {r : go_R}  (x1 : Int32) (x2 : Int32) (v : go_V) (h : f_M_goesAhead_70  x1 x2 v = some r) : Go l G M_M_goesAhead go_Ex0 (go_E G ad 1 r 0 0) ad v [(0, .ref (ad (100))), (1, .int x1), (2, .int x2)] 70 [] 0 0 := by
  unfold f_M_goesAhead_70 at h
  refine go_iconst (x := (0 : Int32)) (d_M_goesAhead 70 rfl) (by decide) ?_
  exact go_iret (d_M_goesAhead 71 rfl) rfl (by decide) (Option.some.inj h) (by decide) (by decide)
def f_M_goesAhead (x1 : Int32) (x2 : Int32) (v : go_V) : Option go_R := gd (go_in x1 40) (gd (go_in x2 40) (br (decide ((v 116 x1.toNatClampNeg) = (v 116 x2.toNatClampNeg))) (gd (go_in x1 40) (gd (go_in x2 40) (br (decide ((v 118 x2.toNatClampNeg) < (v 118 x1.toNatClampNeg))) (f_M_goesAhead_66  (x1) (x2) (v)) (gd (go_in x1 40) (gd (go_in x2 40) (br (decide ((v 118 x1.toNatClampNeg) = (v 118 x2.toNatClampNeg))) (br (decide (x1 ≤ x2)) (f_M_goesAhead_70  (x1) (x2) (v)) (f_M_goesAhead_66  (x1) (x2) (v))) (f_M_goesAhead_70  (x1) (x2) (v)))))))) (gd (go_in x1 40) (br (decide ((v 116 x1.toNatClampNeg) = (1 : Int32))) (some (0, (1 : Int32), 0, v)) (some (0, (0 : Int32), 0, v))))))
set_option maxHeartbeats 4000000 in
set_option maxRecDepth 100000 in
theorem Ca_M_goesAhead {l : Launch} {G : go_G} {ad : Nat → Nat} (hl : l.stackTraces = false) {r : go_R} {x1 : Int32} {x2 : Int32} {v : go_V} (h : f_M_goesAhead x1 x2 v = some r) : Ca l G y_M_goesAhead (.code y_M_goesAhead c_M_goesAhead 3 (some .boolean) :: go_TT) (rmD 0 0) 1 ad [.ref (ad (100)), .int x1, .int x2] v r := by
  unfold f_M_goesAhead at h
  refine go_body (own := RM) (by decide) rfl (Nat.le_of_ble_eq_true rfl) ?_
  show Go l G M_M_goesAhead go_Ex0 (go_E G ad 1 r 0 0) ad v [(0, .ref (ad (100))), (1, .int x1), (2, .int x2)] 0 [] 0 0
  refine go_aload_n (d_M_goesAhead 0 rfl) rfl rfl ?_
  refine go_getR (d_M_goesAhead 1 rfl) fl_M_56 rfl rfl ?_
  show Go _ _ _ _ _ _ _ _ _ (.ref (ad (116)) :: []) _ _
  refine go_iload_n (d_M_goesAhead 4 rfl) rfl rfl ?_
  obtain ⟨g_1, h⟩ := gd_some h
  refine go_iald (d_M_goesAhead 5 rfl) rfl g_1 ?_
  refine go_aload_n (d_M_goesAhead 6 rfl) rfl rfl ?_
  refine go_getR (d_M_goesAhead 7 rfl) fl_M_56 rfl rfl ?_
  show Go _ _ _ _ _ _ _ _ _ (.ref (ad (116)) :: .int ((v 116 x1.toNatClampNeg)) :: []) _ _
  refine go_iload_n (d_M_goesAhead 10 rfl) rfl rfl ?_
  obtain ⟨g_2, h⟩ := gd_some h
  refine go_iald (d_M_goesAhead 11 rfl) rfl g_2 ?_
  rcases br_some h with ⟨c_3, h⟩ | ⟨c_3, h⟩
  · refine go_icmp_eq (tgt := 31) (d_M_goesAhead 12 rfl) (by decide) (fun _ => ?_) (fun q => absurd (of_decide_eq_true c_3) q)
    refine go_aload_n (d_M_goesAhead 31 rfl) rfl rfl ?_
    refine go_getR (d_M_goesAhead 32 rfl) fl_M_62 rfl rfl ?_
    show Go _ _ _ _ _ _ _ _ _ (.ref (ad (118)) :: []) _ _
    refine go_iload_n (d_M_goesAhead 35 rfl) rfl rfl ?_
    obtain ⟨g_4, h⟩ := gd_some h
    refine go_iald (d_M_goesAhead 36 rfl) rfl g_4 ?_
    refine go_aload_n (d_M_goesAhead 37 rfl) rfl rfl ?_
    refine go_getR (d_M_goesAhead 38 rfl) fl_M_62 rfl rfl ?_
    show Go _ _ _ _ _ _ _ _ _ (.ref (ad (118)) :: .int ((v 118 x1.toNatClampNeg)) :: []) _ _
    refine go_iload_n (d_M_goesAhead 41 rfl) rfl rfl ?_
    obtain ⟨g_5, h⟩ := gd_some h
    refine go_iald (d_M_goesAhead 42 rfl) rfl g_5 ?_
    rcases br_some h with ⟨c_6, h⟩ | ⟨c_6, h⟩
    · refine go_icmp_gt (tgt := 66) (d_M_goesAhead 43 rfl) (by decide) (fun _ => ?_) (fun q => absurd (of_decide_eq_true c_6) q)
      exact b_M_goesAhead_66 hl  (x1) (x2) (v) h
    · refine go_icmp_gt (tgt := 66) (d_M_goesAhead 43 rfl) (by decide) (fun q => absurd q (of_decide_eq_false c_6)) (fun _ => ?_)
      refine go_aload_n (d_M_goesAhead 46 rfl) rfl rfl ?_
      refine go_getR (d_M_goesAhead 47 rfl) fl_M_62 rfl rfl ?_
      show Go _ _ _ _ _ _ _ _ _ (.ref (ad (118)) :: []) _ _
      refine go_iload_n (d_M_goesAhead 50 rfl) rfl rfl ?_
      obtain ⟨g_7, h⟩ := gd_some h
      refine go_iald (d_M_goesAhead 51 rfl) rfl g_7 ?_
      refine go_aload_n (d_M_goesAhead 52 rfl) rfl rfl ?_
      refine go_getR (d_M_goesAhead 53 rfl) fl_M_62 rfl rfl ?_
      show Go _ _ _ _ _ _ _ _ _ (.ref (ad (118)) :: .int ((v 118 x1.toNatClampNeg)) :: []) _ _
      refine go_iload_n (d_M_goesAhead 56 rfl) rfl rfl ?_
      obtain ⟨g_8, h⟩ := gd_some h
      refine go_iald (d_M_goesAhead 57 rfl) rfl g_8 ?_
      rcases br_some h with ⟨c_9, h⟩ | ⟨c_9, h⟩
      · refine go_icmp_ne (tgt := 70) (d_M_goesAhead 58 rfl) (by decide) (fun q => absurd (of_decide_eq_true c_9) q) (fun _ => ?_)
        refine go_iload_n (d_M_goesAhead 61 rfl) rfl rfl ?_
        refine go_iload_n (d_M_goesAhead 62 rfl) rfl rfl ?_
        rcases br_some h with ⟨c_10, h⟩ | ⟨c_10, h⟩
        · refine go_icmp_le (tgt := 70) (d_M_goesAhead 63 rfl) (by decide) (fun _ => ?_) (fun q => absurd (of_decide_eq_true c_10) q)
          exact b_M_goesAhead_70 hl  (x1) (x2) (v) h
        · refine go_icmp_le (tgt := 70) (d_M_goesAhead 63 rfl) (by decide) (fun q => absurd q (of_decide_eq_false c_10)) (fun _ => ?_)
          exact b_M_goesAhead_66 hl  (x1) (x2) (v) h
      · refine go_icmp_ne (tgt := 70) (d_M_goesAhead 58 rfl) (by decide) (fun _ => ?_) (fun q => absurd q (of_decide_eq_false c_9))
        exact b_M_goesAhead_70 hl  (x1) (x2) (v) h
  · refine go_icmp_eq (tgt := 31) (d_M_goesAhead 12 rfl) (by decide) (fun q => absurd q (of_decide_eq_false c_3)) (fun _ => ?_)
    refine go_aload_n (d_M_goesAhead 15 rfl) rfl rfl ?_
    refine go_getR (d_M_goesAhead 16 rfl) fl_M_56 rfl rfl ?_
    show Go _ _ _ _ _ _ _ _ _ (.ref (ad (116)) :: []) _ _
    refine go_iload_n (d_M_goesAhead 19 rfl) rfl rfl ?_
    obtain ⟨g_11, h⟩ := gd_some h
    refine go_iald (d_M_goesAhead 20 rfl) rfl g_11 ?_
    refine go_iconst (x := (1 : Int32)) (d_M_goesAhead 21 rfl) (by decide) ?_
    rcases br_some h with ⟨c_12, h⟩ | ⟨c_12, h⟩
    · refine go_icmp_ne (tgt := 29) (d_M_goesAhead 22 rfl) (by decide) (fun q => absurd (of_decide_eq_true c_12) q) (fun _ => ?_)
      refine go_iconst (x := (1 : Int32)) (d_M_goesAhead 25 rfl) (by decide) ?_
      refine go_goto (tgt := 30) (d_M_goesAhead 26 rfl) (by decide) ?_
      exact go_iret (d_M_goesAhead 30 rfl) rfl (by decide) (Option.some.inj h) (by decide) (by decide)
    · refine go_icmp_ne (tgt := 29) (d_M_goesAhead 22 rfl) (by decide) (fun _ => ?_) (fun q => absurd q (of_decide_eq_false c_12))
      refine go_iconst (x := (0 : Int32)) (d_M_goesAhead 29 rfl) (by decide) ?_
      exact go_iret (d_M_goesAhead 30 rfl) rfl (by decide) (Option.some.inj h) (by decide) (by decide)
abbrev M_M_calm : go_M := (c_M_calm, 8, (some .int), RM, [], rmD 2 0)
def f_M_calm_172 (rec86 : Int32 → Int32 → Int32 → Int32 → Int32 → go_V → Option go_R) (rec93 : Int32 → Int32 → Int32 → Int32 → Int32 → go_V → Option go_R) (rec121 : Int32 → Int32 → Int32 → Int32 → Int32 → Int32 → Int32 → go_V → Option go_R) (x1 : Int32) (x2 : Int32) (x3 : Int32) (x4 : Int32) (x5 : Int32) (x6 : Int32) (x7 : Int32) (v : go_V) : Option go_R := rec121 (x1) (x2) (x3) (x4) (x5) (x6) ((x7 + 1)) (v)
set_option maxHeartbeats 4000000 in
set_option maxRecDepth 100000 in
theorem b_M_calm_172 {l : Launch} {G : go_G} {ad : Nat → Nat} (hl : l.stackTraces = false) {r : go_R} (rec86 : Int32 → Int32 → Int32 → Int32 → Int32 → go_V → Option go_R) (hrec86 : ∀ (x1 : Int32) (x2 : Int32) (x3 : Int32) (x4 : Int32) (x5 : Int32) (v : go_V), rec86 x1 x2 x3 x4 x5 v = some r → Go l G M_M_calm go_Ex0 (go_E G ad 1 r 0 0) ad v [(0, .ref (ad (100))), (1, .int x1), (2, .int x2), (3, .int x3), (4, .int x4), (5, .int x5)] 86 [] 0 0) (rec93 : Int32 → Int32 → Int32 → Int32 → Int32 → go_V → Option go_R) (hrec93 : ∀ (x1 : Int32) (x2 : Int32) (x3 : Int32) (x4 : Int32) (x5 : Int32) (v : go_V), rec93 x1 x2 x3 x4 x5 v = some r → Go l G M_M_calm go_Ex0 (go_E G ad 1 r 0 0) ad v [(0, .ref (ad (100))), (1, .int x1), (2, .int x2), (3, .int x3), (4, .int x4), (5, .int x5)] 93 [] 0 0) (rec121 : Int32 → Int32 → Int32 → Int32 → Int32 → Int32 → Int32 → go_V → Option go_R) (hrec121 : ∀ (x1 : Int32) (x2 : Int32) (x3 : Int32) (x4 : Int32) (x5 : Int32) (x6 : Int32) (x7 : Int32) (v : go_V), rec121 x1 x2 x3 x4 x5 x6 x7 v = some r → Go l G M_M_calm go_Ex0 (go_E G ad 1 r 0 0) ad v [(0, .ref (ad (100))), (1, .int x1), (2, .int x2), (3, .int x3), (4, .int x4), (5, .int x5), (6, .int x6), (7, .int x7)] 121 [] 0 0) (x1 : Int32) (x2 : Int32) (x3 : Int32) (x4 : Int32) (x5 : Int32) (x6 : Int32) (x7 : Int32) (v : go_V) (h : f_M_calm_172 rec86 rec93 rec121 x1 x2 x3 x4 x5 x6 x7 v = some r) : Go l G M_M_calm go_Ex0 (go_E G ad 1 r 0 0) ad v [(0, .ref (ad (100))), (1, .int x1), (2, .int x2), (3, .int x3), (4, .int x4), (5, .int x5), (6, .int x6), (7, .int x7)] 172 [] 0 0 := by
  unfold f_M_calm_172 at h
  refine go_iinc (y := (x7 + 1)) (lv' := [(0, .ref (ad (100))), (1, .int x1), (2, .int x2), (3, .int x3), (4, .int x4), (5, .int x5), (6, .int x6), (7, .int ((x7 + 1)))]) (d_M_calm 172 rfl) rfl rfl (by decide) rfl ?_
  refine go_goto (tgt := 121) (d_M_calm 175 rfl) (by decide) ?_
  exact hrec121 (x1) (x2) (x3) (x4) (x5) (x6) ((x7 + 1)) (v) h
def f_M_calm_168 (rec86 : Int32 → Int32 → Int32 → Int32 → Int32 → go_V → Option go_R) (rec93 : Int32 → Int32 → Int32 → Int32 → Int32 → go_V → Option go_R) (rec121 : Int32 → Int32 → Int32 → Int32 → Int32 → Int32 → Int32 → go_V → Option go_R) (x1 : Int32) (x2 : Int32) (x3 : Int32) (x4 : Int32) (x5 : Int32) (x6 : Int32) (x7 : Int32) (v : go_V) : Option go_R := f_M_calm_172 (rec86) (rec93) (rec121) (x1) (x2) (x3) (x4) (x5) (x7) (x7) (v)
set_option maxHeartbeats 4000000 in
set_option maxRecDepth 100000 in
theorem b_M_calm_168 {l : Launch} {G : go_G} {ad : Nat → Nat} (hl : l.stackTraces = false) {r : go_R} (rec86 : Int32 → Int32 → Int32 → Int32 → Int32 → go_V → Option go_R) (hrec86 : ∀ (x1 : Int32) (x2 : Int32) (x3 : Int32) (x4 : Int32) (x5 : Int32) (v : go_V), rec86 x1 x2 x3 x4 x5 v = some r → Go l G M_M_calm go_Ex0 (go_E G ad 1 r 0 0) ad v [(0, .ref (ad (100))), (1, .int x1), (2, .int x2), (3, .int x3), (4, .int x4), (5, .int x5)] 86 [] 0 0) (rec93 : Int32 → Int32 → Int32 → Int32 → Int32 → go_V → Option go_R) (hrec93 : ∀ (x1 : Int32) (x2 : Int32) (x3 : Int32) (x4 : Int32) (x5 : Int32) (v : go_V), rec93 x1 x2 x3 x4 x5 v = some r → Go l G M_M_calm go_Ex0 (go_E G ad 1 r 0 0) ad v [(0, .ref (ad (100))), (1, .int x1), (2, .int x2), (3, .int x3), (4, .int x4), (5, .int x5)] 93 [] 0 0) (rec121 : Int32 → Int32 → Int32 → Int32 → Int32 → Int32 → Int32 → go_V → Option go_R) (hrec121 : ∀ (x1 : Int32) (x2 : Int32) (x3 : Int32) (x4 : Int32) (x5 : Int32) (x6 : Int32) (x7 : Int32) (v : go_V), rec121 x1 x2 x3 x4 x5 x6 x7 v = some r → Go l G M_M_calm go_Ex0 (go_E G ad 1 r 0 0) ad v [(0, .ref (ad (100))), (1, .int x1), (2, .int x2), (3, .int x3), (4, .int x4), (5, .int x5), (6, .int x6), (7, .int x7)] 121 [] 0 0) (x1 : Int32) (x2 : Int32) (x3 : Int32) (x4 : Int32) (x5 : Int32) (x6 : Int32) (x7 : Int32) (v : go_V) (h : f_M_calm_168 rec86 rec93 rec121 x1 x2 x3 x4 x5 x6 x7 v = some r) : Go l G M_M_calm go_Ex0 (go_E G ad 1 r 0 0) ad v [(0, .ref (ad (100))), (1, .int x1), (2, .int x2), (3, .int x3), (4, .int x4), (5, .int x5), (6, .int x6), (7, .int x7)] 168 [] 0 0 := by
  unfold f_M_calm_168 at h
  refine go_iload (d_M_calm 168 rfl) rfl ?_
  refine go_istore (lv' := [(0, .ref (ad (100))), (1, .int x1), (2, .int x2), (3, .int x3), (4, .int x4), (5, .int x5), (6, .int x7), (7, .int x7)]) (d_M_calm 170 rfl) (by decide) rfl ?_
  exact b_M_calm_172 hl _ hrec86 _ hrec93 _ hrec121 (x1) (x2) (x3) (x4) (x5) (x7) (x7) (v) h
def f_M_calm_121 (rec86 : Int32 → Int32 → Int32 → Int32 → Int32 → go_V → Option go_R) (rec93 : Int32 → Int32 → Int32 → Int32 → Int32 → go_V → Option go_R) : Nat → Int32 → Int32 → Int32 → Int32 → Int32 → Int32 → Int32 → go_V → Option go_R
  | 0, _, _, _, _, _, _, _, _ => none
  | n + 1, x1, x2, x3, x4, x5, x6, x7, v => br (decide ((v 100 19) ≤ x7)) (bd (f_M_free x6 v) (fun r_2 => nt r_2 (rec93 (x1) (x2) (x3) ((x4 + 1)) (x5) (r_2.2.2.2)))) (bd (f_M_isWith x7 x1 v) (fun r_5 => nt r_5 (br (decide (r_5.2.1 = 0)) (f_M_calm_172 (rec86) (rec93) (f_M_calm_121 rec86 rec93 n) (x1) (x2) (x3) (x4) (x5) (x6) (x7) (r_5.2.2.2)) (gd (go_in x7 40) (br (decide ((r_5.2.2.2 115 x7.toNatClampNeg) = x5)) (br (decide (x6 < 0)) (f_M_calm_168 (rec86) (rec93) (f_M_calm_121 rec86 rec93 n) (x1) (x2) (x3) (x4) (x5) (x6) (x7) (r_5.2.2.2)) (bd (f_M_goesAhead x7 x6 r_5.2.2.2) (fun r_12 => nt r_12 (br (decide (r_12.2.1 = 0)) (f_M_calm_172 (rec86) (rec93) (f_M_calm_121 rec86 rec93 n) (x1) (x2) (x3) (x4) (x5) (x6) (x7) (r_12.2.2.2)) (f_M_calm_168 (rec86) (rec93) (f_M_calm_121 rec86 rec93 n) (x1) (x2) (x3) (x4) (x5) (x6) (x7) (r_12.2.2.2)))))) (f_M_calm_172 (rec86) (rec93) (f_M_calm_121 rec86 rec93 n) (x1) (x2) (x3) (x4) (x5) (x6) (x7) (r_5.2.2.2)))))))
set_option maxHeartbeats 4000000 in
set_option maxRecDepth 100000 in
theorem b_M_calm_121 {l : Launch} {G : go_G} {ad : Nat → Nat} (hl : l.stackTraces = false) {r : go_R} (rec86 : Int32 → Int32 → Int32 → Int32 → Int32 → go_V → Option go_R) (hrec86 : ∀ (x1 : Int32) (x2 : Int32) (x3 : Int32) (x4 : Int32) (x5 : Int32) (v : go_V), rec86 x1 x2 x3 x4 x5 v = some r → Go l G M_M_calm go_Ex0 (go_E G ad 1 r 0 0) ad v [(0, .ref (ad (100))), (1, .int x1), (2, .int x2), (3, .int x3), (4, .int x4), (5, .int x5)] 86 [] 0 0) (rec93 : Int32 → Int32 → Int32 → Int32 → Int32 → go_V → Option go_R) (hrec93 : ∀ (x1 : Int32) (x2 : Int32) (x3 : Int32) (x4 : Int32) (x5 : Int32) (v : go_V), rec93 x1 x2 x3 x4 x5 v = some r → Go l G M_M_calm go_Ex0 (go_E G ad 1 r 0 0) ad v [(0, .ref (ad (100))), (1, .int x1), (2, .int x2), (3, .int x3), (4, .int x4), (5, .int x5)] 93 [] 0 0) : ∀ (n : Nat) (x1 : Int32) (x2 : Int32) (x3 : Int32) (x4 : Int32) (x5 : Int32) (x6 : Int32) (x7 : Int32) (v : go_V), f_M_calm_121 rec86 rec93 n x1 x2 x3 x4 x5 x6 x7 v = some r → Go l G M_M_calm go_Ex0 (go_E G ad 1 r 0 0) ad v [(0, .ref (ad (100))), (1, .int x1), (2, .int x2), (3, .int x3), (4, .int x4), (5, .int x5), (6, .int x6), (7, .int x7)] 121 [] 0 0 := by
  intro n
  induction n with
  | zero =>
    intro x1 x2 x3 x4 x5 x6 x7 v h
    cases h
  | succ n ih =>
    intro x1 x2 x3 x4 x5 x6 x7 v h
    rw [f_M_calm_121] at h
    refine go_iload (d_M_calm 121 rfl) rfl ?_
    refine go_aload_n (d_M_calm 123 rfl) rfl rfl ?_
    refine go_getI (d_M_calm 124 rfl) fl_M_81 rfl rfl ?_
    rcases br_some h with ⟨c_1, h⟩ | ⟨c_1, h⟩
    · refine go_icmp_ge (tgt := 178) (d_M_calm 127 rfl) (by decide) (fun _ => ?_) (fun q => absurd (of_decide_eq_true c_1) q)
      refine go_aload_n (d_M_calm 178 rfl) rfl rfl ?_
      refine go_iload (d_M_calm 179 rfl) rfl ?_
      obtain ⟨r_2, o_3, h⟩ := bd_some h
      obtain ⟨z_4, h⟩ := nt_some h
      refine go_cV (As := [.int x6]) (rest := []) (st2 := []) (c2 := 0) (s2 := 0) rfl rfl rfl rfl (Ca_M_free hl o_3)  (d_M_calm 181 rfl) cw_M_105 ⟨w_676, w_22⟩ rfl (by decide) rfl ⟨by decide, by decide⟩ rfl (Nat.le_of_ble_eq_true rfl) ⟨by decide, by decide⟩ (fun _ => ?_) (fun q => absurd z_4 q)
      refine go_iinc (y := (x4 + 1)) (lv' := [(0, .ref (ad (100))), (1, .int x1), (2, .int x2), (3, .int x3), (4, .int ((x4 + 1))), (5, .int x5), (6, .int x6), (7, .int x7)]) (d_M_calm 184 rfl) rfl rfl (by decide) rfl ?_
      refine go_goto (tgt := 93) (d_M_calm 187 rfl) (by decide) ?_
      refine go_sub (lv' := [(0, .ref (ad (100))), (1, .int x1), (2, .int x2), (3, .int x3), (4, .int ((x4 + 1))), (5, .int x5)]) ⟨rfl, rfl, rfl, rfl, rfl, rfl, trivial⟩ ?_
      exact hrec93 (x1) (x2) (x3) ((x4 + 1)) (x5) (r_2.2.2.2) h
    · refine go_icmp_ge (tgt := 178) (d_M_calm 127 rfl) (by decide) (fun q => absurd q (of_decide_eq_false c_1)) (fun _ => ?_)
      refine go_aload_n (d_M_calm 130 rfl) rfl rfl ?_
      refine go_iload (d_M_calm 131 rfl) rfl ?_
      refine go_iload_n (d_M_calm 133 rfl) rfl rfl ?_
      obtain ⟨r_5, o_6, h⟩ := bd_some h
      obtain ⟨z_7, h⟩ := nt_some h
      refine go_cV (As := [.int x7, .int x1]) (rest := []) (st2 := [.int (r_5.2.1)]) (c2 := 0) (s2 := 0) rfl rfl rfl rfl (Ca_M_isWith hl o_6)  (d_M_calm 134 rfl) cw_M_101 ⟨w_672, w_21⟩ rfl (by decide) rfl ⟨by decide, by decide⟩ rfl (Nat.le_of_ble_eq_true rfl) ⟨by decide, by decide⟩ (fun _ => ?_) (fun q => absurd z_7 q)
      rcases br_some h with ⟨c_8, h⟩ | ⟨c_8, h⟩
      · refine go_if_eq (tgt := 172) (d_M_calm 137 rfl) (by decide) (fun _ => ?_) (fun q => absurd (of_decide_eq_true c_8) q)
        exact b_M_calm_172 hl _ hrec86 _ hrec93 _ ih (x1) (x2) (x3) (x4) (x5) (x6) (x7) (r_5.2.2.2) h
      · refine go_if_eq (tgt := 172) (d_M_calm 137 rfl) (by decide) (fun q => absurd q (of_decide_eq_false c_8)) (fun _ => ?_)
        refine go_aload_n (d_M_calm 140 rfl) rfl rfl ?_
        refine go_getR (d_M_calm 141 rfl) fl_M_53 rfl rfl ?_
        show Go _ _ _ _ _ _ _ _ _ (.ref (ad (115)) :: []) _ _
        refine go_iload (d_M_calm 144 rfl) rfl ?_
        obtain ⟨g_9, h⟩ := gd_some h
        refine go_iald (d_M_calm 146 rfl) rfl g_9 ?_
        refine go_iload (d_M_calm 147 rfl) rfl ?_
        rcases br_some h with ⟨c_10, h⟩ | ⟨c_10, h⟩
        · refine go_icmp_ne (tgt := 172) (d_M_calm 149 rfl) (by decide) (fun q => absurd (of_decide_eq_true c_10) q) (fun _ => ?_)
          refine go_iload (d_M_calm 152 rfl) rfl ?_
          rcases br_some h with ⟨c_11, h⟩ | ⟨c_11, h⟩
          · refine go_if_lt (tgt := 168) (d_M_calm 154 rfl) (by decide) (fun _ => ?_) (fun q => absurd (of_decide_eq_true c_11) q)
            exact b_M_calm_168 hl _ hrec86 _ hrec93 _ ih (x1) (x2) (x3) (x4) (x5) (x6) (x7) (r_5.2.2.2) h
          · refine go_if_lt (tgt := 168) (d_M_calm 154 rfl) (by decide) (fun q => absurd q (of_decide_eq_false c_11)) (fun _ => ?_)
            refine go_aload_n (d_M_calm 157 rfl) rfl rfl ?_
            refine go_iload (d_M_calm 158 rfl) rfl ?_
            refine go_iload (d_M_calm 160 rfl) rfl ?_
            obtain ⟨r_12, o_13, h⟩ := bd_some h
            obtain ⟨z_14, h⟩ := nt_some h
            refine go_cV (As := [.int x7, .int x6]) (rest := []) (st2 := [.int (r_12.2.1)]) (c2 := 0) (s2 := 0) rfl rfl rfl rfl (Ca_M_goesAhead hl o_13)  (d_M_calm 162 rfl) cw_M_127 ⟨w_717, w_26⟩ rfl (by decide) rfl ⟨by decide, by decide⟩ rfl (Nat.le_of_ble_eq_true rfl) ⟨by decide, by decide⟩ (fun _ => ?_) (fun q => absurd z_14 q)
            rcases br_some h with ⟨c_15, h⟩ | ⟨c_15, h⟩
            · refine go_if_eq (tgt := 172) (d_M_calm 165 rfl) (by decide) (fun _ => ?_) (fun q => absurd (of_decide_eq_true c_15) q)
              exact b_M_calm_172 hl _ hrec86 _ hrec93 _ ih (x1) (x2) (x3) (x4) (x5) (x6) (x7) (r_12.2.2.2) h
            · refine go_if_eq (tgt := 172) (d_M_calm 165 rfl) (by decide) (fun q => absurd q (of_decide_eq_false c_15)) (fun _ => ?_)
              exact b_M_calm_168 hl _ hrec86 _ hrec93 _ ih (x1) (x2) (x3) (x4) (x5) (x6) (x7) (r_12.2.2.2) h
        · refine go_icmp_ne (tgt := 172) (d_M_calm 149 rfl) (by decide) (fun _ => ?_) (fun q => absurd q (of_decide_eq_false c_10))
          exact b_M_calm_172 hl _ hrec86 _ hrec93 _ ih (x1) (x2) (x3) (x4) (x5) (x6) (x7) (r_5.2.2.2) h
def f_M_calm_93 (rec86 : Int32 → Int32 → Int32 → Int32 → Int32 → go_V → Option go_R) : Nat → Int32 → Int32 → Int32 → Int32 → Int32 → go_V → Option go_R
  | 0, _, _, _, _, _, _ => none
  | n + 1, x1, x2, x3, x4, x5, v => bd (f_M_withSkill x1 x5 v) (fun r_1 => nt r_1 (gd (go_in (((8 : Int32) * x2) + x5) 80) (br (decide (r_1.2.1 ≤ (r_1.2.2.2 101 (((8 : Int32) * x2) + x5).toNatClampNeg))) (rec86 (x1) (x2) (x3) (x4) ((x5 + 1)) (r_1.2.2.2)) (f_M_calm_121 (rec86) (f_M_calm_93 rec86 n) FU (x1) (x2) (x3) (x4) (x5) (((-1) : Int32)) ((0 : Int32)) (r_1.2.2.2)))))
set_option maxHeartbeats 4000000 in
set_option maxRecDepth 100000 in
theorem b_M_calm_93 {l : Launch} {G : go_G} {ad : Nat → Nat} (hl : l.stackTraces = false) {r : go_R} (rec86 : Int32 → Int32 → Int32 → Int32 → Int32 → go_V → Option go_R) (hrec86 : ∀ (x1 : Int32) (x2 : Int32) (x3 : Int32) (x4 : Int32) (x5 : Int32) (v : go_V), rec86 x1 x2 x3 x4 x5 v = some r → Go l G M_M_calm go_Ex0 (go_E G ad 1 r 0 0) ad v [(0, .ref (ad (100))), (1, .int x1), (2, .int x2), (3, .int x3), (4, .int x4), (5, .int x5)] 86 [] 0 0) : ∀ (n : Nat) (x1 : Int32) (x2 : Int32) (x3 : Int32) (x4 : Int32) (x5 : Int32) (v : go_V), f_M_calm_93 rec86 n x1 x2 x3 x4 x5 v = some r → Go l G M_M_calm go_Ex0 (go_E G ad 1 r 0 0) ad v [(0, .ref (ad (100))), (1, .int x1), (2, .int x2), (3, .int x3), (4, .int x4), (5, .int x5)] 93 [] 0 0 := by
  intro n
  induction n with
  | zero =>
    intro x1 x2 x3 x4 x5 v h
    cases h
  | succ n ih =>
    intro x1 x2 x3 x4 x5 v h
    rw [f_M_calm_93] at h
    refine go_aload_n (d_M_calm 93 rfl) rfl rfl ?_
    refine go_iload_n (d_M_calm 94 rfl) rfl rfl ?_
    refine go_iload (d_M_calm 95 rfl) rfl ?_
    obtain ⟨r_1, o_2, h⟩ := bd_some h
    obtain ⟨z_3, h⟩ := nt_some h
    refine go_cV (As := [.int x1, .int x5]) (rest := []) (st2 := [.int (r_1.2.1)]) (c2 := 0) (s2 := 0) rfl rfl rfl rfl (Ca_M_withSkill hl o_2)  (d_M_calm 97 rfl) cw_M_124 ⟨w_713, w_25⟩ rfl (by decide) rfl ⟨by decide, by decide⟩ rfl (Nat.le_of_ble_eq_true rfl) ⟨by decide, by decide⟩ (fun _ => ?_) (fun q => absurd z_3 q)
    refine go_aload_n (d_M_calm 100 rfl) rfl rfl ?_
    refine go_getR (d_M_calm 101 rfl) fl_M_7 rfl rfl ?_
    show Go _ _ _ _ _ _ _ _ _ (.ref (ad (101)) :: .int (r_1.2.1) :: []) _ _
    refine go_bipush (x := (8 : Int32)) (d_M_calm 104 rfl) (by decide) ?_
    refine go_iload_n (d_M_calm 106 rfl) rfl rfl ?_
    refine go_imul (d_M_calm 107 rfl) ?_
    refine go_iload (d_M_calm 108 rfl) rfl ?_
    refine go_iadd (d_M_calm 110 rfl) ?_
    obtain ⟨g_4, h⟩ := gd_some h
    refine go_iald (d_M_calm 111 rfl) rfl g_4 ?_
    rcases br_some h with ⟨c_5, h⟩ | ⟨c_5, h⟩
    · refine go_icmp_le (tgt := 190) (d_M_calm 112 rfl) (by decide) (fun _ => ?_) (fun q => absurd (of_decide_eq_true c_5) q)
      refine go_iinc (y := (x5 + 1)) (lv' := [(0, .ref (ad (100))), (1, .int x1), (2, .int x2), (3, .int x3), (4, .int x4), (5, .int ((x5 + 1)))]) (d_M_calm 190 rfl) rfl rfl (by decide) rfl ?_
      refine go_goto (tgt := 86) (d_M_calm 193 rfl) (by decide) ?_
      exact hrec86 (x1) (x2) (x3) (x4) ((x5 + 1)) (r_1.2.2.2) h
    · refine go_icmp_le (tgt := 190) (d_M_calm 112 rfl) (by decide) (fun q => absurd q (of_decide_eq_false c_5)) (fun _ => ?_)
      refine go_iconst (x := ((-1) : Int32)) (d_M_calm 115 rfl) (by decide) ?_
      refine go_istore (lv' := [(0, .ref (ad (100))), (1, .int x1), (2, .int x2), (3, .int x3), (4, .int x4), (5, .int x5), (6, .int (((-1) : Int32)))]) (d_M_calm 116 rfl) (by decide) rfl ?_
      refine go_iconst (x := (0 : Int32)) (d_M_calm 118 rfl) (by decide) ?_
      refine go_istore (lv' := [(0, .ref (ad (100))), (1, .int x1), (2, .int x2), (3, .int x3), (4, .int x4), (5, .int x5), (6, .int (((-1) : Int32))), (7, .int ((0 : Int32)))]) (d_M_calm 119 rfl) (by decide) rfl ?_
      exact b_M_calm_121 hl _ hrec86 _ ih FU (x1) (x2) (x3) (x4) (x5) (((-1) : Int32)) ((0 : Int32)) (r_1.2.2.2) h
def f_M_calm_86  : Nat → Int32 → Int32 → Int32 → Int32 → Int32 → go_V → Option go_R
  | 0, _, _, _, _, _, _ => none
  | n + 1, x1, x2, x3, x4, x5, v => br (decide ((8 : Int32) ≤ x5)) (ln (u2 v 100 25 ((v 100 25) + x4)) (fun v_2 => some (0, x4, 0, v_2))) (f_M_calm_93 (f_M_calm_86 n) FU (x1) (x2) (x3) (x4) (x5) (v))
set_option maxHeartbeats 4000000 in
set_option maxRecDepth 100000 in
theorem b_M_calm_86 {l : Launch} {G : go_G} {ad : Nat → Nat} (hl : l.stackTraces = false) {r : go_R}  : ∀ (n : Nat) (x1 : Int32) (x2 : Int32) (x3 : Int32) (x4 : Int32) (x5 : Int32) (v : go_V), f_M_calm_86  n x1 x2 x3 x4 x5 v = some r → Go l G M_M_calm go_Ex0 (go_E G ad 1 r 0 0) ad v [(0, .ref (ad (100))), (1, .int x1), (2, .int x2), (3, .int x3), (4, .int x4), (5, .int x5)] 86 [] 0 0 := by
  intro n
  induction n with
  | zero =>
    intro x1 x2 x3 x4 x5 v h
    cases h
  | succ n ih =>
    intro x1 x2 x3 x4 x5 v h
    rw [f_M_calm_86] at h
    refine go_iload (d_M_calm 86 rfl) rfl ?_
    refine go_bipush (x := (8 : Int32)) (d_M_calm 88 rfl) (by decide) ?_
    rcases br_some h with ⟨c_1, h⟩ | ⟨c_1, h⟩
    · refine go_icmp_ge (tgt := 196) (d_M_calm 90 rfl) (by decide) (fun _ => ?_) (fun q => absurd (of_decide_eq_true c_1) q)
      refine go_aload_n (d_M_calm 196 rfl) rfl rfl ?_
      refine go_dup (d_M_calm 197 rfl) rfl ?_
      refine go_getI (d_M_calm 198 rfl) fl_M_130 rfl rfl ?_
      refine go_iload (d_M_calm 201 rfl) rfl ?_
      refine go_iadd (d_M_calm 203 rfl) ?_
      obtain ⟨v_2, ev_2, h⟩ := ln_some h
      refine go_putI (x := ((v 100 25) + x4)) (d_M_calm 204 rfl) fp_M_130 rfl rfl rfl rfl ?_
      rw [← ev_2]
      refine go_iload (d_M_calm 207 rfl) rfl ?_
      exact go_iret (d_M_calm 209 rfl) rfl rfl (Option.some.inj h) (by decide) (by decide)
    · refine go_icmp_ge (tgt := 196) (d_M_calm 90 rfl) (by decide) (fun q => absurd q (of_decide_eq_false c_1)) (fun _ => ?_)
      exact b_M_calm_93 hl _ ih FU (x1) (x2) (x3) (x4) (x5) (v) h
def f_M_calm_54  (x1 : Int32) (x2 : Int32) (x3 : Int32) (y1 : Int32) (y2 : Int32) (v : go_V) : Option go_R := bd (f_M_throwing y1 y2 (0 : Int32) v) (fun r_1 => nt r_1 (br (decide (r_1.2.1 = 0)) (gd (go_in x1 12) (ln (u2 r_1.2.2.2 108 x1.toNatClampNeg x2) (fun v_6 => gd (go_in x1 12) (gd (go_in x1 12) (ln (u2 v_6 113 x1.toNatClampNeg ((v_6 113 x1.toNatClampNeg) + (1 : Int32))) (fun v_9 => f_M_calm_86  FU (x1) (x2) (x3) ((0 : Int32)) ((0 : Int32)) (v_9))))))) (some (0, (0 : Int32), 0, r_1.2.2.2))))
set_option maxHeartbeats 4000000 in
set_option maxRecDepth 100000 in
theorem b_M_calm_54 {l : Launch} {G : go_G} {ad : Nat → Nat} (hl : l.stackTraces = false) {r : go_R}  (x1 : Int32) (x2 : Int32) (x3 : Int32) (y1 : Int32) (y2 : Int32) (v : go_V) (h : f_M_calm_54  x1 x2 x3 y1 y2 v = some r) : Go l G M_M_calm go_Ex0 (go_E G ad 1 r 0 0) ad v [(0, .ref (ad (100))), (1, .int x1), (2, .int x2), (3, .int x3)] 54 [.int y2, .int y1, .ref (ad (100))] 0 0 := by
  unfold f_M_calm_54 at h
  refine go_iconst (x := (0 : Int32)) (d_M_calm 54 rfl) (by decide) ?_
  obtain ⟨r_1, o_2, h⟩ := bd_some h
  obtain ⟨z_3, h⟩ := nt_some h
  refine go_cV (As := [.int y1, .int y2, .int ((0 : Int32))]) (rest := []) (st2 := [.int (r_1.2.1)]) (c2 := 0) (s2 := 0) rfl rfl rfl rfl (Ca_M_throwing hl o_2)  (d_M_calm 55 rfl) cw_M_84 ⟨w_643, w_18⟩ rfl (by decide) rfl ⟨by decide, by decide⟩ rfl (Nat.le_of_ble_eq_true rfl) ⟨by decide, by decide⟩ (fun _ => ?_) (fun q => absurd z_3 q)
  rcases br_some h with ⟨c_4, h⟩ | ⟨c_4, h⟩
  · refine go_if_eq (tgt := 63) (d_M_calm 58 rfl) (by decide) (fun _ => ?_) (fun q => absurd (of_decide_eq_true c_4) q)
    refine go_aload_n (d_M_calm 63 rfl) rfl rfl ?_
    refine go_getR (d_M_calm 64 rfl) fl_M_32 rfl rfl ?_
    show Go _ _ _ _ _ _ _ _ _ (.ref (ad (108)) :: []) _ _
    refine go_iload_n (d_M_calm 67 rfl) rfl rfl ?_
    refine go_iload_n (d_M_calm 68 rfl) rfl rfl ?_
    obtain ⟨g_5, h⟩ := gd_some h
    obtain ⟨v_6, ev_6, h⟩ := ln_some h
    refine go_iast (y := x2) (d_M_calm 69 rfl) rfl g_5 ?_
    rw [← ev_6]
    refine go_aload_n (d_M_calm 70 rfl) rfl rfl ?_
    refine go_getR (d_M_calm 71 rfl) fl_M_47 rfl rfl ?_
    show Go _ _ _ _ _ _ _ _ _ (.ref (ad (113)) :: []) _ _
    refine go_iload_n (d_M_calm 74 rfl) rfl rfl ?_
    refine go_dup2 (d_M_calm 75 rfl) rfl rfl ?_
    obtain ⟨g_7, h⟩ := gd_some h
    refine go_iald (d_M_calm 76 rfl) rfl g_7 ?_
    refine go_iconst (x := (1 : Int32)) (d_M_calm 77 rfl) (by decide) ?_
    refine go_iadd (d_M_calm 78 rfl) ?_
    obtain ⟨g_8, h⟩ := gd_some h
    obtain ⟨v_9, ev_9, h⟩ := ln_some h
    refine go_iast (y := ((v_6 113 x1.toNatClampNeg) + (1 : Int32))) (d_M_calm 79 rfl) rfl g_8 ?_
    rw [← ev_9]
    refine go_iconst (x := (0 : Int32)) (d_M_calm 80 rfl) (by decide) ?_
    refine go_istore (lv' := [(0, .ref (ad (100))), (1, .int x1), (2, .int x2), (3, .int x3), (4, .int ((0 : Int32)))]) (d_M_calm 81 rfl) (by decide) rfl ?_
    refine go_iconst (x := (0 : Int32)) (d_M_calm 83 rfl) (by decide) ?_
    refine go_istore (lv' := [(0, .ref (ad (100))), (1, .int x1), (2, .int x2), (3, .int x3), (4, .int ((0 : Int32))), (5, .int ((0 : Int32)))]) (d_M_calm 84 rfl) (by decide) rfl ?_
    exact b_M_calm_86 hl  FU (x1) (x2) (x3) ((0 : Int32)) ((0 : Int32)) (v_9) h
  · refine go_if_eq (tgt := 63) (d_M_calm 58 rfl) (by decide) (fun q => absurd q (of_decide_eq_false c_4)) (fun _ => ?_)
    refine go_iconst (x := (0 : Int32)) (d_M_calm 61 rfl) (by decide) ?_
    exact go_iret (d_M_calm 62 rfl) rfl rfl (Option.some.inj h) (by decide) (by decide)
def f_M_calm_53  (x1 : Int32) (x2 : Int32) (x3 : Int32) (y1 : Int32) (v : go_V) : Option go_R := f_M_calm_54  (x1) (x2) (x3) (y1) ((0 : Int32)) (v)
set_option maxHeartbeats 4000000 in
set_option maxRecDepth 100000 in
theorem b_M_calm_53 {l : Launch} {G : go_G} {ad : Nat → Nat} (hl : l.stackTraces = false) {r : go_R}  (x1 : Int32) (x2 : Int32) (x3 : Int32) (y1 : Int32) (v : go_V) (h : f_M_calm_53  x1 x2 x3 y1 v = some r) : Go l G M_M_calm go_Ex0 (go_E G ad 1 r 0 0) ad v [(0, .ref (ad (100))), (1, .int x1), (2, .int x2), (3, .int x3)] 53 [.int y1, .ref (ad (100))] 0 0 := by
  unfold f_M_calm_53 at h
  refine go_iconst (x := (0 : Int32)) (d_M_calm 53 rfl) (by decide) ?_
  exact b_M_calm_54 hl  (x1) (x2) (x3) (y1) ((0 : Int32)) (v) h
def f_M_calm_49  (x1 : Int32) (x2 : Int32) (x3 : Int32) (y1 : Int32) (v : go_V) : Option go_R := f_M_calm_54  (x1) (x2) (x3) (y1) ((1 : Int32)) (v)
set_option maxHeartbeats 4000000 in
set_option maxRecDepth 100000 in
theorem b_M_calm_49 {l : Launch} {G : go_G} {ad : Nat → Nat} (hl : l.stackTraces = false) {r : go_R}  (x1 : Int32) (x2 : Int32) (x3 : Int32) (y1 : Int32) (v : go_V) (h : f_M_calm_49  x1 x2 x3 y1 v = some r) : Go l G M_M_calm go_Ex0 (go_E G ad 1 r 0 0) ad v [(0, .ref (ad (100))), (1, .int x1), (2, .int x2), (3, .int x3)] 49 [.int y1, .ref (ad (100))] 0 0 := by
  unfold f_M_calm_49 at h
  refine go_iconst (x := (1 : Int32)) (d_M_calm 49 rfl) (by decide) ?_
  refine go_goto (tgt := 54) (d_M_calm 50 rfl) (by decide) ?_
  exact b_M_calm_54 hl  (x1) (x2) (x3) (y1) ((1 : Int32)) (v) h
def f_M_calm_23  (x1 : Int32) (x2 : Int32) (y0 : Int32) (v : go_V) : Option go_R := br (decide (y0 = 0)) (gd (go_in x1 12) (br (decide ((v 107 x1.toNatClampNeg) = 0)) (f_M_calm_49  (x1) (x2) (y0) (y0) (v)) (gd (go_in x1 12) (br (decide (x2 < (v 108 x1.toNatClampNeg))) (f_M_calm_53  (x1) (x2) (y0) (y0) (v)) (f_M_calm_49  (x1) (x2) (y0) (y0) (v)))))) (f_M_calm_53  (x1) (x2) (y0) (y0) (v))
set_option maxHeartbeats 4000000 in
set_option maxRecDepth 100000 in
theorem b_M_calm_23 {l : Launch} {G : go_G} {ad : Nat → Nat} (hl : l.stackTraces = false) {r : go_R}  (x1 : Int32) (x2 : Int32) (y0 : Int32) (v : go_V) (h : f_M_calm_23  x1 x2 y0 v = some r) : Go l G M_M_calm go_Ex0 (go_E G ad 1 r 0 0) ad v [(0, .ref (ad (100))), (1, .int x1), (2, .int x2)] 23 [.int y0] 0 0 := by
  unfold f_M_calm_23 at h
  refine go_istore_n (lv' := [(0, .ref (ad (100))), (1, .int x1), (2, .int x2), (3, .int y0)]) (d_M_calm 23 rfl) rfl (by decide) rfl ?_
  refine go_aload_n (d_M_calm 24 rfl) rfl rfl ?_
  refine go_iload_n (d_M_calm 25 rfl) rfl rfl ?_
  refine go_iload_n (d_M_calm 26 rfl) rfl rfl ?_
  rcases br_some h with ⟨c_1, h⟩ | ⟨c_1, h⟩
  · refine go_if_ne (tgt := 53) (d_M_calm 27 rfl) (by decide) (fun q => absurd (of_decide_eq_true c_1) q) (fun _ => ?_)
    refine go_aload_n (d_M_calm 30 rfl) rfl rfl ?_
    refine go_getR (d_M_calm 31 rfl) fl_M_28 rfl rfl ?_
    show Go _ _ _ _ _ _ _ _ _ (.ref (ad (107)) :: .int y0 :: .ref (ad (100)) :: []) _ _
    refine go_iload_n (d_M_calm 34 rfl) rfl rfl ?_
    obtain ⟨g_2, h⟩ := gd_some h
    refine go_zald (d_M_calm 35 rfl) rfl g_2 ?_
    rcases br_some h with ⟨c_3, h⟩ | ⟨c_3, h⟩
    · refine go_if_eq (tgt := 49) (d_M_calm 36 rfl) (by decide) (fun _ => ?_) (fun q => absurd (of_decide_eq_true c_3) q)
      exact b_M_calm_49 hl  (x1) (x2) (y0) (y0) (v) h
    · refine go_if_eq (tgt := 49) (d_M_calm 36 rfl) (by decide) (fun q => absurd q (of_decide_eq_false c_3)) (fun _ => ?_)
      refine go_aload_n (d_M_calm 39 rfl) rfl rfl ?_
      refine go_getR (d_M_calm 40 rfl) fl_M_32 rfl rfl ?_
      show Go _ _ _ _ _ _ _ _ _ (.ref (ad (108)) :: .int y0 :: .ref (ad (100)) :: []) _ _
      refine go_iload_n (d_M_calm 43 rfl) rfl rfl ?_
      obtain ⟨g_4, h⟩ := gd_some h
      refine go_iald (d_M_calm 44 rfl) rfl g_4 ?_
      refine go_iload_n (d_M_calm 45 rfl) rfl rfl ?_
      rcases br_some h with ⟨c_5, h⟩ | ⟨c_5, h⟩
      · refine go_icmp_gt (tgt := 53) (d_M_calm 46 rfl) (by decide) (fun _ => ?_) (fun q => absurd (of_decide_eq_true c_5) q)
        exact b_M_calm_53 hl  (x1) (x2) (y0) (y0) (v) h
      · refine go_icmp_gt (tgt := 53) (d_M_calm 46 rfl) (by decide) (fun q => absurd q (of_decide_eq_false c_5)) (fun _ => ?_)
        exact b_M_calm_49 hl  (x1) (x2) (y0) (y0) (v) h
  · refine go_if_ne (tgt := 53) (d_M_calm 27 rfl) (by decide) (fun _ => ?_) (fun q => absurd q (of_decide_eq_false c_1))
    exact b_M_calm_53 hl  (x1) (x2) (y0) (y0) (v) h
def f_M_calm_18  (x1 : Int32) (x2 : Int32) (v : go_V) : Option go_R := f_M_calm_23  (x1) (x2) ((1 : Int32)) (v)
set_option maxHeartbeats 4000000 in
set_option maxRecDepth 100000 in
theorem b_M_calm_18 {l : Launch} {G : go_G} {ad : Nat → Nat} (hl : l.stackTraces = false) {r : go_R}  (x1 : Int32) (x2 : Int32) (v : go_V) (h : f_M_calm_18  x1 x2 v = some r) : Go l G M_M_calm go_Ex0 (go_E G ad 1 r 0 0) ad v [(0, .ref (ad (100))), (1, .int x1), (2, .int x2)] 18 [] 0 0 := by
  unfold f_M_calm_18 at h
  refine go_iconst (x := (1 : Int32)) (d_M_calm 18 rfl) (by decide) ?_
  refine go_goto (tgt := 23) (d_M_calm 19 rfl) (by decide) ?_
  exact b_M_calm_23 hl  (x1) (x2) ((1 : Int32)) (v) h
def f_M_calm (x1 : Int32) (x2 : Int32) (v : go_V) : Option go_R := bd (f_M_isIncident x1 v) (fun r_1 => nt r_1 (br (decide (r_1.2.1 = 0)) (f_M_calm_18  (x1) (x2) (r_1.2.2.2)) (bd (f_M_in x2 (0 : Int32) (9 : Int32) r_1.2.2.2) (fun r_5 => nt r_5 (br (decide (r_5.2.1 = 0)) (f_M_calm_18  (x1) (x2) (r_5.2.2.2)) (f_M_calm_23  (x1) (x2) ((0 : Int32)) (r_5.2.2.2)))))))
set_option maxHeartbeats 4000000 in
set_option maxRecDepth 100000 in
theorem Ca_M_calm {l : Launch} {G : go_G} {ad : Nat → Nat} (hl : l.stackTraces = false) {r : go_R} {x1 : Int32} {x2 : Int32} {v : go_V} (h : f_M_calm x1 x2 v = some r) : Ca l G y_M_calm (.code y_M_calm c_M_calm 8 (some .int) :: go_TT) (rmD 2 0) 1 ad [.ref (ad (100)), .int x1, .int x2] v r := by
  unfold f_M_calm at h
  refine go_body (own := RM) (by decide) rfl (Nat.le_of_ble_eq_true rfl) ?_
  show Go l G M_M_calm go_Ex0 (go_E G ad 1 r 0 0) ad v [(0, .ref (ad (100))), (1, .int x1), (2, .int x2)] 0 [] 0 0
  refine go_aload_n (d_M_calm 0 rfl) rfl rfl ?_
  refine go_iload_n (d_M_calm 1 rfl) rfl rfl ?_
  obtain ⟨r_1, o_2, h⟩ := bd_some h
  obtain ⟨z_3, h⟩ := nt_some h
  refine go_cV (As := [.int x1]) (rest := []) (st2 := [.int (r_1.2.1)]) (c2 := 0) (s2 := 0) rfl rfl rfl rfl (Ca_M_isIncident hl o_2)  (d_M_calm 2 rfl) cw_M_77 ⟨w_664, w_19⟩ rfl (by decide) rfl ⟨by decide, by decide⟩ rfl (Nat.le_of_ble_eq_true rfl) ⟨by decide, by decide⟩ (fun _ => ?_) (fun q => absurd z_3 q)
  rcases br_some h with ⟨c_4, h⟩ | ⟨c_4, h⟩
  · refine go_if_eq (tgt := 18) (d_M_calm 5 rfl) (by decide) (fun _ => ?_) (fun q => absurd (of_decide_eq_true c_4) q)
    exact b_M_calm_18 hl  (x1) (x2) (r_1.2.2.2) h
  · refine go_if_eq (tgt := 18) (d_M_calm 5 rfl) (by decide) (fun q => absurd q (of_decide_eq_false c_4)) (fun _ => ?_)
    refine go_iload_n (d_M_calm 8 rfl) rfl rfl ?_
    refine go_iconst (x := (0 : Int32)) (d_M_calm 9 rfl) (by decide) ?_
    refine go_bipush (x := (9 : Int32)) (d_M_calm 10 rfl) (by decide) ?_
    obtain ⟨r_5, o_6, h⟩ := bd_some h
    obtain ⟨z_7, h⟩ := nt_some h
    refine go_cS (As := [.int x2, .int ((0 : Int32)), .int ((9 : Int32))]) (rest := []) (st2 := [.int (r_5.2.1)]) (c2 := 0) (s2 := 0) rfl rfl rfl rfl (Ca_M_in hl o_6)  (d_M_calm 12 rfl) cw_M_73 w_639 ⟨by decide, by decide⟩ rfl (Nat.le_of_ble_eq_true rfl) ⟨by decide, by decide⟩ (fun _ => ?_) (fun q => absurd z_7 q)
    rcases br_some h with ⟨c_8, h⟩ | ⟨c_8, h⟩
    · refine go_if_ne (tgt := 22) (d_M_calm 15 rfl) (by decide) (fun q => absurd (of_decide_eq_true c_8) q) (fun _ => ?_)
      exact b_M_calm_18 hl  (x1) (x2) (r_5.2.2.2) h
    · refine go_if_ne (tgt := 22) (d_M_calm 15 rfl) (by decide) (fun _ => ?_) (fun q => absurd q (of_decide_eq_false c_8))
      refine go_iconst (x := (0 : Int32)) (d_M_calm 22 rfl) (by decide) ?_
      exact b_M_calm_23 hl  (x1) (x2) ((0 : Int32)) (r_5.2.2.2) h
abbrev M_M_unit : go_M := (c_M_unit, 2, (some .int), RM, [], rmD 1 0)
def f_M_unit_30  (x1 : Int32) (y1 : Int32) (y2 : Int32) (v : go_V) : Option go_R := bd (f_M_throwing y1 y2 (0 : Int32) v) (fun r_1 => nt r_1 (br (decide (r_1.2.1 = 0)) (gd (go_in (r_1.2.2.2 100 19) 40) (ln (u2 r_1.2.2.2 115 (r_1.2.2.2 100 19).toNatClampNeg x1) (fun v_6 => bd (f_M_free (v_6 100 19) v_6) (fun r_7 => nt r_7 (ln (u2 r_7.2.2.2 100 19 ((r_7.2.2.2 100 19) + (1 : Int32))) (fun v_10 => some (0, ((v_10 100 19) - (1 : Int32)), 0, v_10))))))) (some (0, (0 : Int32), 0, r_1.2.2.2))))
set_option maxHeartbeats 4000000 in
set_option maxRecDepth 100000 in
theorem b_M_unit_30 {l : Launch} {G : go_G} {ad : Nat → Nat} (hl : l.stackTraces = false) {r : go_R}  (x1 : Int32) (y1 : Int32) (y2 : Int32) (v : go_V) (h : f_M_unit_30  x1 y1 y2 v = some r) : Go l G M_M_unit go_Ex0 (go_E G ad 1 r 0 0) ad v [(0, .ref (ad (100))), (1, .int x1)] 30 [.int y2, .int y1, .ref (ad (100))] 0 0 := by
  unfold f_M_unit_30 at h
  refine go_iconst (x := (0 : Int32)) (d_M_unit 30 rfl) (by decide) ?_
  obtain ⟨r_1, o_2, h⟩ := bd_some h
  obtain ⟨z_3, h⟩ := nt_some h
  refine go_cV (As := [.int y1, .int y2, .int ((0 : Int32))]) (rest := []) (st2 := [.int (r_1.2.1)]) (c2 := 0) (s2 := 0) rfl rfl rfl rfl (Ca_M_throwing hl o_2)  (d_M_unit 31 rfl) cw_M_84 ⟨w_643, w_18⟩ rfl (by decide) rfl ⟨by decide, by decide⟩ rfl (Nat.le_of_ble_eq_true rfl) ⟨by decide, by decide⟩ (fun _ => ?_) (fun q => absurd z_3 q)
  rcases br_some h with ⟨c_4, h⟩ | ⟨c_4, h⟩
  · refine go_if_eq (tgt := 39) (d_M_unit 34 rfl) (by decide) (fun _ => ?_) (fun q => absurd (of_decide_eq_true c_4) q)
    refine go_aload_n (d_M_unit 39 rfl) rfl rfl ?_
    refine go_getR (d_M_unit 40 rfl) fl_M_53 rfl rfl ?_
    show Go _ _ _ _ _ _ _ _ _ (.ref (ad (115)) :: []) _ _
    refine go_aload_n (d_M_unit 43 rfl) rfl rfl ?_
    refine go_getI (d_M_unit 44 rfl) fl_M_81 rfl rfl ?_
    refine go_iload_n (d_M_unit 47 rfl) rfl rfl ?_
    obtain ⟨g_5, h⟩ := gd_some h
    obtain ⟨v_6, ev_6, h⟩ := ln_some h
    refine go_iast (y := x1) (d_M_unit 48 rfl) rfl g_5 ?_
    rw [← ev_6]
    refine go_aload_n (d_M_unit 49 rfl) rfl rfl ?_
    refine go_aload_n (d_M_unit 50 rfl) rfl rfl ?_
    refine go_getI (d_M_unit 51 rfl) fl_M_81 rfl rfl ?_
    obtain ⟨r_7, o_8, h⟩ := bd_some h
    obtain ⟨z_9, h⟩ := nt_some h
    refine go_cV (As := [.int ((v_6 100 19))]) (rest := []) (st2 := []) (c2 := 0) (s2 := 0) rfl rfl rfl rfl (Ca_M_free hl o_8)  (d_M_unit 54 rfl) cw_M_105 ⟨w_676, w_22⟩ rfl (by decide) rfl ⟨by decide, by decide⟩ rfl (Nat.le_of_ble_eq_true rfl) ⟨by decide, by decide⟩ (fun _ => ?_) (fun q => absurd z_9 q)
    refine go_aload_n (d_M_unit 57 rfl) rfl rfl ?_
    refine go_dup (d_M_unit 58 rfl) rfl ?_
    refine go_getI (d_M_unit 59 rfl) fl_M_81 rfl rfl ?_
    refine go_iconst (x := (1 : Int32)) (d_M_unit 62 rfl) (by decide) ?_
    refine go_iadd (d_M_unit 63 rfl) ?_
    obtain ⟨v_10, ev_10, h⟩ := ln_some h
    refine go_putI (x := ((r_7.2.2.2 100 19) + (1 : Int32))) (d_M_unit 64 rfl) fp_M_81 rfl rfl rfl rfl ?_
    rw [← ev_10]
    refine go_aload_n (d_M_unit 67 rfl) rfl rfl ?_
    refine go_getI (d_M_unit 68 rfl) fl_M_81 rfl rfl ?_
    refine go_iconst (x := (1 : Int32)) (d_M_unit 71 rfl) (by decide) ?_
    refine go_isub (d_M_unit 72 rfl) ?_
    exact go_iret (d_M_unit 73 rfl) rfl rfl (Option.some.inj h) (by decide) (by decide)
  · refine go_if_eq (tgt := 39) (d_M_unit 34 rfl) (by decide) (fun q => absurd q (of_decide_eq_false c_4)) (fun _ => ?_)
    refine go_iconst (x := (0 : Int32)) (d_M_unit 37 rfl) (by decide) ?_
    exact go_iret (d_M_unit 38 rfl) rfl rfl (Option.some.inj h) (by decide) (by decide)
def f_M_unit_16  (x1 : Int32) (y1 : Int32) (v : go_V) : Option go_R := br (decide ((v 100 19) = (40 : Int32))) (f_M_unit_30  (x1) (y1) ((1 : Int32)) (v)) (f_M_unit_30  (x1) (y1) ((0 : Int32)) (v))
set_option maxHeartbeats 4000000 in
set_option maxRecDepth 100000 in
theorem b_M_unit_16 {l : Launch} {G : go_G} {ad : Nat → Nat} (hl : l.stackTraces = false) {r : go_R}  (x1 : Int32) (y1 : Int32) (v : go_V) (h : f_M_unit_16  x1 y1 v = some r) : Go l G M_M_unit go_Ex0 (go_E G ad 1 r 0 0) ad v [(0, .ref (ad (100))), (1, .int x1)] 16 [.int y1, .ref (ad (100))] 0 0 := by
  unfold f_M_unit_16 at h
  refine go_aload_n (d_M_unit 16 rfl) rfl rfl ?_
  refine go_getI (d_M_unit 17 rfl) fl_M_81 rfl rfl ?_
  refine go_bipush (x := (40 : Int32)) (d_M_unit 20 rfl) (by decide) ?_
  rcases br_some h with ⟨c_1, h⟩ | ⟨c_1, h⟩
  · refine go_icmp_ne (tgt := 29) (d_M_unit 22 rfl) (by decide) (fun q => absurd (of_decide_eq_true c_1) q) (fun _ => ?_)
    refine go_iconst (x := (1 : Int32)) (d_M_unit 25 rfl) (by decide) ?_
    refine go_goto (tgt := 30) (d_M_unit 26 rfl) (by decide) ?_
    exact b_M_unit_30 hl  (x1) (y1) ((1 : Int32)) (v) h
  · refine go_icmp_ne (tgt := 29) (d_M_unit 22 rfl) (by decide) (fun _ => ?_) (fun q => absurd q (of_decide_eq_false c_1))
    refine go_iconst (x := (0 : Int32)) (d_M_unit 29 rfl) (by decide) ?_
    exact b_M_unit_30 hl  (x1) (y1) ((0 : Int32)) (v) h
def f_M_unit (x1 : Int32) (v : go_V) : Option go_R := bd (f_M_in x1 (0 : Int32) (7 : Int32) v) (fun r_1 => nt r_1 (br (decide (r_1.2.1 = 0)) (f_M_unit_16  (x1) ((1 : Int32)) (r_1.2.2.2)) (f_M_unit_16  (x1) ((0 : Int32)) (r_1.2.2.2))))
set_option maxHeartbeats 4000000 in
set_option maxRecDepth 100000 in
theorem Ca_M_unit {l : Launch} {G : go_G} {ad : Nat → Nat} (hl : l.stackTraces = false) {r : go_R} {x1 : Int32} {v : go_V} (h : f_M_unit x1 v = some r) : Ca l G y_M_unit (.code y_M_unit c_M_unit 2 (some .int) :: go_TT) (rmD 1 0) 1 ad [.ref (ad (100)), .int x1] v r := by
  unfold f_M_unit at h
  refine go_body (own := RM) (by decide) rfl (Nat.le_of_ble_eq_true rfl) ?_
  show Go l G M_M_unit go_Ex0 (go_E G ad 1 r 0 0) ad v [(0, .ref (ad (100))), (1, .int x1)] 0 [] 0 0
  refine go_aload_n (d_M_unit 0 rfl) rfl rfl ?_
  refine go_iload_n (d_M_unit 1 rfl) rfl rfl ?_
  refine go_iconst (x := (0 : Int32)) (d_M_unit 2 rfl) (by decide) ?_
  refine go_bipush (x := (7 : Int32)) (d_M_unit 3 rfl) (by decide) ?_
  obtain ⟨r_1, o_2, h⟩ := bd_some h
  obtain ⟨z_3, h⟩ := nt_some h
  refine go_cS (As := [.int x1, .int ((0 : Int32)), .int ((7 : Int32))]) (rest := [.ref (ad (100))]) (st2 := [.int (r_1.2.1), .ref (ad (100))]) (c2 := 0) (s2 := 0) rfl rfl rfl rfl (Ca_M_in hl o_2)  (d_M_unit 5 rfl) cw_M_73 w_639 ⟨by decide, by decide⟩ rfl (Nat.le_of_ble_eq_true rfl) ⟨by decide, by decide⟩ (fun _ => ?_) (fun q => absurd z_3 q)
  rcases br_some h with ⟨c_4, h⟩ | ⟨c_4, h⟩
  · refine go_if_ne (tgt := 15) (d_M_unit 8 rfl) (by decide) (fun q => absurd (of_decide_eq_true c_4) q) (fun _ => ?_)
    refine go_iconst (x := (1 : Int32)) (d_M_unit 11 rfl) (by decide) ?_
    refine go_goto (tgt := 16) (d_M_unit 12 rfl) (by decide) ?_
    exact b_M_unit_16 hl  (x1) ((1 : Int32)) (r_1.2.2.2) h
  · refine go_if_ne (tgt := 15) (d_M_unit 8 rfl) (by decide) (fun _ => ?_) (fun q => absurd q (of_decide_eq_false c_4))
    refine go_iconst (x := (0 : Int32)) (d_M_unit 15 rfl) (by decide) ?_
    exact b_M_unit_16 hl  (x1) ((0 : Int32)) (r_1.2.2.2) h
abbrev M_M_go : go_M := (c_M_go, 5, none, RM, [], rmD 2 0)
def f_M_go_69  (x1 : Int32) (x2 : Int32) (x3 : Int32) (x4 : Int32) (y1 : Int32) (y2 : Int32) (y3 : Int32) (v : go_V) : Option go_R := bd (f_M_throwing y1 y2 y3 v) (fun r_1 => nt r_1 (br (decide (r_1.2.1 = 0)) (gd (go_in x1 40) (ln (u2 r_1.2.2.2 116 x1.toNatClampNeg (1 : Int32)) (fun v_6 => gd (go_in x1 40) (ln (u2 v_6 117 x1.toNatClampNeg x2) (fun v_8 => gd (go_in x1 40) (ln (u2 v_8 118 x1.toNatClampNeg x3) (fun v_10 => some (0, 0, 0, v_10)))))))) (some (0, 0, 0, r_1.2.2.2))))
set_option maxHeartbeats 4000000 in
set_option maxRecDepth 100000 in
theorem b_M_go_69 {l : Launch} {G : go_G} {ad : Nat → Nat} (hl : l.stackTraces = false) {r : go_R}  (x1 : Int32) (x2 : Int32) (x3 : Int32) (x4 : Int32) (y1 : Int32) (y2 : Int32) (y3 : Int32) (v : go_V) (h : f_M_go_69  x1 x2 x3 x4 y1 y2 y3 v = some r) : Go l G M_M_go go_Ex0 (go_E G ad 0 r 0 0) ad v [(0, .ref (ad (100))), (1, .int x1), (2, .int x2), (3, .int x3), (4, .int x4)] 69 [.int y3, .int y2, .int y1, .ref (ad (100))] 0 0 := by
  unfold f_M_go_69 at h
  obtain ⟨r_1, o_2, h⟩ := bd_some h
  obtain ⟨z_3, h⟩ := nt_some h
  refine go_cV (As := [.int y1, .int y2, .int y3]) (rest := []) (st2 := [.int (r_1.2.1)]) (c2 := 0) (s2 := 0) rfl rfl rfl rfl (Ca_M_throwing hl o_2)  (d_M_go 69 rfl) cw_M_84 ⟨w_643, w_18⟩ rfl (by decide) rfl ⟨by decide, by decide⟩ rfl (Nat.le_of_ble_eq_true rfl) ⟨by decide, by decide⟩ (fun _ => ?_) (fun q => absurd z_3 q)
  rcases br_some h with ⟨c_4, h⟩ | ⟨c_4, h⟩
  · refine go_if_eq (tgt := 76) (d_M_go 72 rfl) (by decide) (fun _ => ?_) (fun q => absurd (of_decide_eq_true c_4) q)
    refine go_aload_n (d_M_go 76 rfl) rfl rfl ?_
    refine go_getR (d_M_go 77 rfl) fl_M_56 rfl rfl ?_
    show Go _ _ _ _ _ _ _ _ _ (.ref (ad (116)) :: []) _ _
    refine go_iload_n (d_M_go 80 rfl) rfl rfl ?_
    refine go_iconst (x := (1 : Int32)) (d_M_go 81 rfl) (by decide) ?_
    obtain ⟨g_5, h⟩ := gd_some h
    obtain ⟨v_6, ev_6, h⟩ := ln_some h
    refine go_iast (y := (1 : Int32)) (d_M_go 82 rfl) rfl g_5 ?_
    rw [← ev_6]
    refine go_aload_n (d_M_go 83 rfl) rfl rfl ?_
    refine go_getR (d_M_go 84 rfl) fl_M_59 rfl rfl ?_
    show Go _ _ _ _ _ _ _ _ _ (.ref (ad (117)) :: []) _ _
    refine go_iload_n (d_M_go 87 rfl) rfl rfl ?_
    refine go_iload_n (d_M_go 88 rfl) rfl rfl ?_
    obtain ⟨g_7, h⟩ := gd_some h
    obtain ⟨v_8, ev_8, h⟩ := ln_some h
    refine go_iast (y := x2) (d_M_go 89 rfl) rfl g_7 ?_
    rw [← ev_8]
    refine go_aload_n (d_M_go 90 rfl) rfl rfl ?_
    refine go_getR (d_M_go 91 rfl) fl_M_62 rfl rfl ?_
    show Go _ _ _ _ _ _ _ _ _ (.ref (ad (118)) :: []) _ _
    refine go_iload_n (d_M_go 94 rfl) rfl rfl ?_
    refine go_iload_n (d_M_go 95 rfl) rfl rfl ?_
    obtain ⟨g_9, h⟩ := gd_some h
    obtain ⟨v_10, ev_10, h⟩ := ln_some h
    refine go_iast (y := x3) (d_M_go 96 rfl) rfl g_9 ?_
    rw [← ev_10]
    exact go_vret (d_M_go 97 rfl) rfl (Option.some.inj h) (by decide) (by decide)
  · refine go_if_eq (tgt := 76) (d_M_go 72 rfl) (by decide) (fun q => absurd q (of_decide_eq_false c_4)) (fun _ => ?_)
    exact go_vret (d_M_go 75 rfl) rfl (Option.some.inj h) (by decide) (by decide)
def f_M_go_68  (x1 : Int32) (x2 : Int32) (x3 : Int32) (x4 : Int32) (y1 : Int32) (y2 : Int32) (v : go_V) : Option go_R := f_M_go_69  (x1) (x2) (x3) (x4) (y1) (y2) ((0 : Int32)) (v)
set_option maxHeartbeats 4000000 in
set_option maxRecDepth 100000 in
theorem b_M_go_68 {l : Launch} {G : go_G} {ad : Nat → Nat} (hl : l.stackTraces = false) {r : go_R}  (x1 : Int32) (x2 : Int32) (x3 : Int32) (x4 : Int32) (y1 : Int32) (y2 : Int32) (v : go_V) (h : f_M_go_68  x1 x2 x3 x4 y1 y2 v = some r) : Go l G M_M_go go_Ex0 (go_E G ad 0 r 0 0) ad v [(0, .ref (ad (100))), (1, .int x1), (2, .int x2), (3, .int x3), (4, .int x4)] 68 [.int y2, .int y1, .ref (ad (100))] 0 0 := by
  unfold f_M_go_68 at h
  refine go_iconst (x := (0 : Int32)) (d_M_go 68 rfl) (by decide) ?_
  exact b_M_go_69 hl  (x1) (x2) (x3) (x4) (y1) (y2) ((0 : Int32)) (v) h
def f_M_go_64  (x1 : Int32) (x2 : Int32) (x3 : Int32) (x4 : Int32) (y1 : Int32) (y2 : Int32) (v : go_V) : Option go_R := f_M_go_69  (x1) (x2) (x3) (x4) (y1) (y2) ((1 : Int32)) (v)
set_option maxHeartbeats 4000000 in
set_option maxRecDepth 100000 in
theorem b_M_go_64 {l : Launch} {G : go_G} {ad : Nat → Nat} (hl : l.stackTraces = false) {r : go_R}  (x1 : Int32) (x2 : Int32) (x3 : Int32) (x4 : Int32) (y1 : Int32) (y2 : Int32) (v : go_V) (h : f_M_go_64  x1 x2 x3 x4 y1 y2 v = some r) : Go l G M_M_go go_Ex0 (go_E G ad 0 r 0 0) ad v [(0, .ref (ad (100))), (1, .int x1), (2, .int x2), (3, .int x3), (4, .int x4)] 64 [.int y2, .int y1, .ref (ad (100))] 0 0 := by
  unfold f_M_go_64 at h
  refine go_iconst (x := (1 : Int32)) (d_M_go 64 rfl) (by decide) ?_
  refine go_goto (tgt := 69) (d_M_go 65 rfl) (by decide) ?_
  exact b_M_go_69 hl  (x1) (x2) (x3) (x4) (y1) (y2) ((1 : Int32)) (v) h
def f_M_go_41  (x1 : Int32) (x2 : Int32) (x3 : Int32) (x4 : Int32) (y1 : Int32) (y2 : Int32) (v : go_V) : Option go_R := br (decide (x4 = 0)) (gd (go_in x1 40) (br (decide ((v 116 x1.toNatClampNeg) = 0)) (gd (go_in x2 12) (br (decide ((v 107 x2.toNatClampNeg) = 0)) (f_M_go_64  (x1) (x2) (x3) (x4) (y1) (y2) (v)) (f_M_go_68  (x1) (x2) (x3) (x4) (y1) (y2) (v)))) (f_M_go_64  (x1) (x2) (x3) (x4) (y1) (y2) (v)))) (f_M_go_68  (x1) (x2) (x3) (x4) (y1) (y2) (v))
set_option maxHeartbeats 4000000 in
set_option maxRecDepth 100000 in
theorem b_M_go_41 {l : Launch} {G : go_G} {ad : Nat → Nat} (hl : l.stackTraces = false) {r : go_R}  (x1 : Int32) (x2 : Int32) (x3 : Int32) (x4 : Int32) (y1 : Int32) (y2 : Int32) (v : go_V) (h : f_M_go_41  x1 x2 x3 x4 y1 y2 v = some r) : Go l G M_M_go go_Ex0 (go_E G ad 0 r 0 0) ad v [(0, .ref (ad (100))), (1, .int x1), (2, .int x2), (3, .int x3), (4, .int x4)] 41 [.int y2, .int y1, .ref (ad (100))] 0 0 := by
  unfold f_M_go_41 at h
  refine go_iload (d_M_go 41 rfl) rfl ?_
  rcases br_some h with ⟨c_1, h⟩ | ⟨c_1, h⟩
  · refine go_if_ne (tgt := 68) (d_M_go 43 rfl) (by decide) (fun q => absurd (of_decide_eq_true c_1) q) (fun _ => ?_)
    refine go_aload_n (d_M_go 46 rfl) rfl rfl ?_
    refine go_getR (d_M_go 47 rfl) fl_M_56 rfl rfl ?_
    show Go _ _ _ _ _ _ _ _ _ (.ref (ad (116)) :: .int y2 :: .int y1 :: .ref (ad (100)) :: []) _ _
    refine go_iload_n (d_M_go 50 rfl) rfl rfl ?_
    obtain ⟨g_2, h⟩ := gd_some h
    refine go_iald (d_M_go 51 rfl) rfl g_2 ?_
    rcases br_some h with ⟨c_3, h⟩ | ⟨c_3, h⟩
    · refine go_if_ne (tgt := 64) (d_M_go 52 rfl) (by decide) (fun q => absurd (of_decide_eq_true c_3) q) (fun _ => ?_)
      refine go_aload_n (d_M_go 55 rfl) rfl rfl ?_
      refine go_getR (d_M_go 56 rfl) fl_M_28 rfl rfl ?_
      show Go _ _ _ _ _ _ _ _ _ (.ref (ad (107)) :: .int y2 :: .int y1 :: .ref (ad (100)) :: []) _ _
      refine go_iload_n (d_M_go 59 rfl) rfl rfl ?_
      obtain ⟨g_4, h⟩ := gd_some h
      refine go_zald (d_M_go 60 rfl) rfl g_4 ?_
      rcases br_some h with ⟨c_5, h⟩ | ⟨c_5, h⟩
      · refine go_if_ne (tgt := 68) (d_M_go 61 rfl) (by decide) (fun q => absurd (of_decide_eq_true c_5) q) (fun _ => ?_)
        exact b_M_go_64 hl  (x1) (x2) (x3) (x4) (y1) (y2) (v) h
      · refine go_if_ne (tgt := 68) (d_M_go 61 rfl) (by decide) (fun _ => ?_) (fun q => absurd q (of_decide_eq_false c_5))
        exact b_M_go_68 hl  (x1) (x2) (x3) (x4) (y1) (y2) (v) h
    · refine go_if_ne (tgt := 64) (d_M_go 52 rfl) (by decide) (fun _ => ?_) (fun q => absurd q (of_decide_eq_false c_3))
      exact b_M_go_64 hl  (x1) (x2) (x3) (x4) (y1) (y2) (v) h
  · refine go_if_ne (tgt := 68) (d_M_go 43 rfl) (by decide) (fun _ => ?_) (fun q => absurd q (of_decide_eq_false c_1))
    exact b_M_go_68 hl  (x1) (x2) (x3) (x4) (y1) (y2) (v) h
def f_M_go_21  (x1 : Int32) (x2 : Int32) (x3 : Int32) (y0 : Int32) (v : go_V) : Option go_R := bd (f_M_in x3 (0 : Int32) (99999 : Int32) v) (fun r_1 => nt r_1 (br (decide (r_1.2.1 = 0)) (f_M_go_41  (x1) (x2) (x3) (y0) (y0) ((1 : Int32)) (r_1.2.2.2)) (f_M_go_41  (x1) (x2) (x3) (y0) (y0) ((0 : Int32)) (r_1.2.2.2))))
set_option maxHeartbeats 4000000 in
set_option maxRecDepth 100000 in
theorem b_M_go_21 {l : Launch} {G : go_G} {ad : Nat → Nat} (hl : l.stackTraces = false) {r : go_R}  (x1 : Int32) (x2 : Int32) (x3 : Int32) (y0 : Int32) (v : go_V) (h : f_M_go_21  x1 x2 x3 y0 v = some r) : Go l G M_M_go go_Ex0 (go_E G ad 0 r 0 0) ad v [(0, .ref (ad (100))), (1, .int x1), (2, .int x2), (3, .int x3)] 21 [.int y0] 0 0 := by
  unfold f_M_go_21 at h
  refine go_istore (lv' := [(0, .ref (ad (100))), (1, .int x1), (2, .int x2), (3, .int x3), (4, .int y0)]) (d_M_go 21 rfl) (by decide) rfl ?_
  refine go_aload_n (d_M_go 23 rfl) rfl rfl ?_
  refine go_iload (d_M_go 24 rfl) rfl ?_
  refine go_iload_n (d_M_go 26 rfl) rfl rfl ?_
  refine go_iconst (x := (0 : Int32)) (d_M_go 27 rfl) (by decide) ?_
  refine go_ldc (x := (99999 : Int32)) (d_M_go 28 rfl) w_731 ?_
  obtain ⟨r_1, o_2, h⟩ := bd_some h
  obtain ⟨z_3, h⟩ := nt_some h
  refine go_cS (As := [.int x3, .int ((0 : Int32)), .int ((99999 : Int32))]) (rest := [.int y0, .ref (ad (100))]) (st2 := [.int (r_1.2.1), .int y0, .ref (ad (100))]) (c2 := 0) (s2 := 0) rfl rfl rfl rfl (Ca_M_in hl o_2)  (d_M_go 30 rfl) cw_M_73 w_639 ⟨by decide, by decide⟩ rfl (Nat.le_of_ble_eq_true rfl) ⟨by decide, by decide⟩ (fun _ => ?_) (fun q => absurd z_3 q)
  rcases br_some h with ⟨c_4, h⟩ | ⟨c_4, h⟩
  · refine go_if_ne (tgt := 40) (d_M_go 33 rfl) (by decide) (fun q => absurd (of_decide_eq_true c_4) q) (fun _ => ?_)
    refine go_iconst (x := (1 : Int32)) (d_M_go 36 rfl) (by decide) ?_
    refine go_goto (tgt := 41) (d_M_go 37 rfl) (by decide) ?_
    exact b_M_go_41 hl  (x1) (x2) (x3) (y0) (y0) ((1 : Int32)) (r_1.2.2.2) h
  · refine go_if_ne (tgt := 40) (d_M_go 33 rfl) (by decide) (fun _ => ?_) (fun q => absurd q (of_decide_eq_false c_4))
    refine go_iconst (x := (0 : Int32)) (d_M_go 40 rfl) (by decide) ?_
    exact b_M_go_41 hl  (x1) (x2) (x3) (y0) (y0) ((0 : Int32)) (r_1.2.2.2) h
def f_M_go_16  (x1 : Int32) (x2 : Int32) (x3 : Int32) (v : go_V) : Option go_R := f_M_go_21  (x1) (x2) (x3) ((1 : Int32)) (v)
set_option maxHeartbeats 4000000 in
set_option maxRecDepth 100000 in
theorem b_M_go_16 {l : Launch} {G : go_G} {ad : Nat → Nat} (hl : l.stackTraces = false) {r : go_R}  (x1 : Int32) (x2 : Int32) (x3 : Int32) (v : go_V) (h : f_M_go_16  x1 x2 x3 v = some r) : Go l G M_M_go go_Ex0 (go_E G ad 0 r 0 0) ad v [(0, .ref (ad (100))), (1, .int x1), (2, .int x2), (3, .int x3)] 16 [] 0 0 := by
  unfold f_M_go_16 at h
  refine go_iconst (x := (1 : Int32)) (d_M_go 16 rfl) (by decide) ?_
  refine go_goto (tgt := 21) (d_M_go 17 rfl) (by decide) ?_
  exact b_M_go_21 hl  (x1) (x2) (x3) ((1 : Int32)) (v) h
def f_M_go (x1 : Int32) (x2 : Int32) (x3 : Int32) (v : go_V) : Option go_R := bd (f_M_isUnit x1 v) (fun r_1 => nt r_1 (br (decide (r_1.2.1 = 0)) (f_M_go_16  (x1) (x2) (x3) (r_1.2.2.2)) (bd (f_M_isIncident x2 r_1.2.2.2) (fun r_5 => nt r_5 (br (decide (r_5.2.1 = 0)) (f_M_go_16  (x1) (x2) (x3) (r_5.2.2.2)) (f_M_go_21  (x1) (x2) (x3) ((0 : Int32)) (r_5.2.2.2)))))))
set_option maxHeartbeats 4000000 in
set_option maxRecDepth 100000 in
theorem Ca_M_go {l : Launch} {G : go_G} {ad : Nat → Nat} (hl : l.stackTraces = false) {r : go_R} {x1 : Int32} {x2 : Int32} {x3 : Int32} {v : go_V} (h : f_M_go x1 x2 x3 v = some r) : Ca l G y_M_go (.code y_M_go c_M_go 5 none :: go_TT) (rmD 2 0) 0 ad [.ref (ad (100)), .int x1, .int x2, .int x3] v r := by
  unfold f_M_go at h
  refine go_body (own := RM) (by decide) rfl (Nat.le_of_ble_eq_true rfl) ?_
  show Go l G M_M_go go_Ex0 (go_E G ad 0 r 0 0) ad v [(0, .ref (ad (100))), (1, .int x1), (2, .int x2), (3, .int x3)] 0 [] 0 0
  refine go_aload_n (d_M_go 0 rfl) rfl rfl ?_
  refine go_iload_n (d_M_go 1 rfl) rfl rfl ?_
  obtain ⟨r_1, o_2, h⟩ := bd_some h
  obtain ⟨z_3, h⟩ := nt_some h
  refine go_cV (As := [.int x1]) (rest := []) (st2 := [.int (r_1.2.1)]) (c2 := 0) (s2 := 0) rfl rfl rfl rfl (Ca_M_isUnit hl o_2)  (d_M_go 2 rfl) cw_M_133 ⟨w_729, w_27⟩ rfl (by decide) rfl ⟨by decide, by decide⟩ rfl (Nat.le_of_ble_eq_true rfl) ⟨by decide, by decide⟩ (fun _ => ?_) (fun q => absurd z_3 q)
  rcases br_some h with ⟨c_4, h⟩ | ⟨c_4, h⟩
  · refine go_if_eq (tgt := 16) (d_M_go 5 rfl) (by decide) (fun _ => ?_) (fun q => absurd (of_decide_eq_true c_4) q)
    exact b_M_go_16 hl  (x1) (x2) (x3) (r_1.2.2.2) h
  · refine go_if_eq (tgt := 16) (d_M_go 5 rfl) (by decide) (fun q => absurd q (of_decide_eq_false c_4)) (fun _ => ?_)
    refine go_aload_n (d_M_go 8 rfl) rfl rfl ?_
    refine go_iload_n (d_M_go 9 rfl) rfl rfl ?_
    obtain ⟨r_5, o_6, h⟩ := bd_some h
    obtain ⟨z_7, h⟩ := nt_some h
    refine go_cV (As := [.int x2]) (rest := []) (st2 := [.int (r_5.2.1)]) (c2 := 0) (s2 := 0) rfl rfl rfl rfl (Ca_M_isIncident hl o_6)  (d_M_go 10 rfl) cw_M_77 ⟨w_664, w_19⟩ rfl (by decide) rfl ⟨by decide, by decide⟩ rfl (Nat.le_of_ble_eq_true rfl) ⟨by decide, by decide⟩ (fun _ => ?_) (fun q => absurd z_7 q)
    rcases br_some h with ⟨c_8, h⟩ | ⟨c_8, h⟩
    · refine go_if_ne (tgt := 20) (d_M_go 13 rfl) (by decide) (fun q => absurd (of_decide_eq_true c_8) q) (fun _ => ?_)
      exact b_M_go_16 hl  (x1) (x2) (x3) (r_5.2.2.2) h
    · refine go_if_ne (tgt := 20) (d_M_go 13 rfl) (by decide) (fun _ => ?_) (fun q => absurd q (of_decide_eq_false c_8))
      refine go_iconst (x := (0 : Int32)) (d_M_go 20 rfl) (by decide) ?_
      exact b_M_go_21 hl  (x1) (x2) (x3) ((0 : Int32)) (r_5.2.2.2) h
abbrev M_M_arrive : go_M := (c_M_arrive, 3, none, RM, [], rmD 2 0)
def f_M_arrive_35  (x1 : Int32) (x2 : Int32) (y1 : Int32) (y2 : Int32) (v : go_V) : Option go_R := bd (f_M_throwing y1 y2 (0 : Int32) v) (fun r_1 => nt r_1 (br (decide (r_1.2.1 = 0)) (gd (go_in x1 40) (ln (u2 r_1.2.2.2 116 x1.toNatClampNeg (2 : Int32)) (fun v_6 => some (0, 0, 0, v_6)))) (some (0, 0, 0, r_1.2.2.2))))
set_option maxHeartbeats 4000000 in
set_option maxRecDepth 100000 in
theorem b_M_arrive_35 {l : Launch} {G : go_G} {ad : Nat → Nat} (hl : l.stackTraces = false) {r : go_R}  (x1 : Int32) (x2 : Int32) (y1 : Int32) (y2 : Int32) (v : go_V) (h : f_M_arrive_35  x1 x2 y1 y2 v = some r) : Go l G M_M_arrive go_Ex0 (go_E G ad 0 r 0 0) ad v [(0, .ref (ad (100))), (1, .int x1), (2, .int x2)] 35 [.int y2, .int y1, .ref (ad (100))] 0 0 := by
  unfold f_M_arrive_35 at h
  refine go_iconst (x := (0 : Int32)) (d_M_arrive 35 rfl) (by decide) ?_
  obtain ⟨r_1, o_2, h⟩ := bd_some h
  obtain ⟨z_3, h⟩ := nt_some h
  refine go_cV (As := [.int y1, .int y2, .int ((0 : Int32))]) (rest := []) (st2 := [.int (r_1.2.1)]) (c2 := 0) (s2 := 0) rfl rfl rfl rfl (Ca_M_throwing hl o_2)  (d_M_arrive 36 rfl) cw_M_84 ⟨w_643, w_18⟩ rfl (by decide) rfl ⟨by decide, by decide⟩ rfl (Nat.le_of_ble_eq_true rfl) ⟨by decide, by decide⟩ (fun _ => ?_) (fun q => absurd z_3 q)
  rcases br_some h with ⟨c_4, h⟩ | ⟨c_4, h⟩
  · refine go_if_eq (tgt := 43) (d_M_arrive 39 rfl) (by decide) (fun _ => ?_) (fun q => absurd (of_decide_eq_true c_4) q)
    refine go_aload_n (d_M_arrive 43 rfl) rfl rfl ?_
    refine go_getR (d_M_arrive 44 rfl) fl_M_56 rfl rfl ?_
    show Go _ _ _ _ _ _ _ _ _ (.ref (ad (116)) :: []) _ _
    refine go_iload_n (d_M_arrive 47 rfl) rfl rfl ?_
    refine go_iconst (x := (2 : Int32)) (d_M_arrive 48 rfl) (by decide) ?_
    obtain ⟨g_5, h⟩ := gd_some h
    obtain ⟨v_6, ev_6, h⟩ := ln_some h
    refine go_iast (y := (2 : Int32)) (d_M_arrive 49 rfl) rfl g_5 ?_
    rw [← ev_6]
    exact go_vret (d_M_arrive 50 rfl) rfl (Option.some.inj h) (by decide) (by decide)
  · refine go_if_eq (tgt := 43) (d_M_arrive 39 rfl) (by decide) (fun q => absurd q (of_decide_eq_false c_4)) (fun _ => ?_)
    exact go_vret (d_M_arrive 42 rfl) rfl (Option.some.inj h) (by decide) (by decide)
def f_M_arrive_34  (x1 : Int32) (x2 : Int32) (y1 : Int32) (v : go_V) : Option go_R := f_M_arrive_35  (x1) (x2) (y1) ((0 : Int32)) (v)
set_option maxHeartbeats 4000000 in
set_option maxRecDepth 100000 in
theorem b_M_arrive_34 {l : Launch} {G : go_G} {ad : Nat → Nat} (hl : l.stackTraces = false) {r : go_R}  (x1 : Int32) (x2 : Int32) (y1 : Int32) (v : go_V) (h : f_M_arrive_34  x1 x2 y1 v = some r) : Go l G M_M_arrive go_Ex0 (go_E G ad 0 r 0 0) ad v [(0, .ref (ad (100))), (1, .int x1), (2, .int x2)] 34 [.int y1, .ref (ad (100))] 0 0 := by
  unfold f_M_arrive_34 at h
  refine go_iconst (x := (0 : Int32)) (d_M_arrive 34 rfl) (by decide) ?_
  exact b_M_arrive_35 hl  (x1) (x2) (y1) ((0 : Int32)) (v) h
def f_M_arrive_13  (x1 : Int32) (y0 : Int32) (v : go_V) : Option go_R := br (decide (y0 = 0)) (gd (go_in x1 40) (br (decide ((v 116 x1.toNatClampNeg) = (1 : Int32))) (f_M_arrive_34  (x1) (y0) (y0) (v)) (f_M_arrive_35  (x1) (y0) (y0) ((1 : Int32)) (v)))) (f_M_arrive_34  (x1) (y0) (y0) (v))
set_option maxHeartbeats 4000000 in
set_option maxRecDepth 100000 in
theorem b_M_arrive_13 {l : Launch} {G : go_G} {ad : Nat → Nat} (hl : l.stackTraces = false) {r : go_R}  (x1 : Int32) (y0 : Int32) (v : go_V) (h : f_M_arrive_13  x1 y0 v = some r) : Go l G M_M_arrive go_Ex0 (go_E G ad 0 r 0 0) ad v [(0, .ref (ad (100))), (1, .int x1)] 13 [.int y0] 0 0 := by
  unfold f_M_arrive_13 at h
  refine go_istore_n (lv' := [(0, .ref (ad (100))), (1, .int x1), (2, .int y0)]) (d_M_arrive 13 rfl) rfl (by decide) rfl ?_
  refine go_aload_n (d_M_arrive 14 rfl) rfl rfl ?_
  refine go_iload_n (d_M_arrive 15 rfl) rfl rfl ?_
  refine go_iload_n (d_M_arrive 16 rfl) rfl rfl ?_
  rcases br_some h with ⟨c_1, h⟩ | ⟨c_1, h⟩
  · refine go_if_ne (tgt := 34) (d_M_arrive 17 rfl) (by decide) (fun q => absurd (of_decide_eq_true c_1) q) (fun _ => ?_)
    refine go_aload_n (d_M_arrive 20 rfl) rfl rfl ?_
    refine go_getR (d_M_arrive 21 rfl) fl_M_56 rfl rfl ?_
    show Go _ _ _ _ _ _ _ _ _ (.ref (ad (116)) :: .int y0 :: .ref (ad (100)) :: []) _ _
    refine go_iload_n (d_M_arrive 24 rfl) rfl rfl ?_
    obtain ⟨g_2, h⟩ := gd_some h
    refine go_iald (d_M_arrive 25 rfl) rfl g_2 ?_
    refine go_iconst (x := (1 : Int32)) (d_M_arrive 26 rfl) (by decide) ?_
    rcases br_some h with ⟨c_3, h⟩ | ⟨c_3, h⟩
    · refine go_icmp_eq (tgt := 34) (d_M_arrive 27 rfl) (by decide) (fun _ => ?_) (fun q => absurd (of_decide_eq_true c_3) q)
      exact b_M_arrive_34 hl  (x1) (y0) (y0) (v) h
    · refine go_icmp_eq (tgt := 34) (d_M_arrive 27 rfl) (by decide) (fun q => absurd q (of_decide_eq_false c_3)) (fun _ => ?_)
      refine go_iconst (x := (1 : Int32)) (d_M_arrive 30 rfl) (by decide) ?_
      refine go_goto (tgt := 35) (d_M_arrive 31 rfl) (by decide) ?_
      exact b_M_arrive_35 hl  (x1) (y0) (y0) ((1 : Int32)) (v) h
  · refine go_if_ne (tgt := 34) (d_M_arrive 17 rfl) (by decide) (fun _ => ?_) (fun q => absurd q (of_decide_eq_false c_1))
    exact b_M_arrive_34 hl  (x1) (y0) (y0) (v) h
def f_M_arrive (x1 : Int32) (v : go_V) : Option go_R := bd (f_M_isUnit x1 v) (fun r_1 => nt r_1 (br (decide (r_1.2.1 = 0)) (f_M_arrive_13  (x1) ((1 : Int32)) (r_1.2.2.2)) (f_M_arrive_13  (x1) ((0 : Int32)) (r_1.2.2.2))))
set_option maxHeartbeats 4000000 in
set_option maxRecDepth 100000 in
theorem Ca_M_arrive {l : Launch} {G : go_G} {ad : Nat → Nat} (hl : l.stackTraces = false) {r : go_R} {x1 : Int32} {v : go_V} (h : f_M_arrive x1 v = some r) : Ca l G y_M_arrive (.code y_M_arrive c_M_arrive 3 none :: go_TT) (rmD 2 0) 0 ad [.ref (ad (100)), .int x1] v r := by
  unfold f_M_arrive at h
  refine go_body (own := RM) (by decide) rfl (Nat.le_of_ble_eq_true rfl) ?_
  show Go l G M_M_arrive go_Ex0 (go_E G ad 0 r 0 0) ad v [(0, .ref (ad (100))), (1, .int x1)] 0 [] 0 0
  refine go_aload_n (d_M_arrive 0 rfl) rfl rfl ?_
  refine go_iload_n (d_M_arrive 1 rfl) rfl rfl ?_
  obtain ⟨r_1, o_2, h⟩ := bd_some h
  obtain ⟨z_3, h⟩ := nt_some h
  refine go_cV (As := [.int x1]) (rest := []) (st2 := [.int (r_1.2.1)]) (c2 := 0) (s2 := 0) rfl rfl rfl rfl (Ca_M_isUnit hl o_2)  (d_M_arrive 2 rfl) cw_M_133 ⟨w_729, w_27⟩ rfl (by decide) rfl ⟨by decide, by decide⟩ rfl (Nat.le_of_ble_eq_true rfl) ⟨by decide, by decide⟩ (fun _ => ?_) (fun q => absurd z_3 q)
  rcases br_some h with ⟨c_4, h⟩ | ⟨c_4, h⟩
  · refine go_if_ne (tgt := 12) (d_M_arrive 5 rfl) (by decide) (fun q => absurd (of_decide_eq_true c_4) q) (fun _ => ?_)
    refine go_iconst (x := (1 : Int32)) (d_M_arrive 8 rfl) (by decide) ?_
    refine go_goto (tgt := 13) (d_M_arrive 9 rfl) (by decide) ?_
    exact b_M_arrive_13 hl  (x1) ((1 : Int32)) (r_1.2.2.2) h
  · refine go_if_ne (tgt := 12) (d_M_arrive 5 rfl) (by decide) (fun _ => ?_) (fun q => absurd q (of_decide_eq_false c_4))
    refine go_iconst (x := (0 : Int32)) (d_M_arrive 12 rfl) (by decide) ?_
    exact b_M_arrive_13 hl  (x1) ((0 : Int32)) (r_1.2.2.2) h
abbrev M_M_needed : go_M := (c_M_needed, 4, (some .int), RM, [], rmD 2 0)
def f_M_needed_44  (x1 : Int32) (x2 : Int32) (x3 : Int32) (y1 : Int32) (y2 : Int32) (v : go_V) : Option go_R := bd (f_M_throwing y1 y2 (0 : Int32) v) (fun r_1 => nt r_1 (br (decide (r_1.2.1 = 0)) (gd (go_in x1 12) (gd (go_in (((8 : Int32) * (r_1.2.2.2 108 x1.toNatClampNeg)) + x2) 80) (bd (f_M_withSkill x1 x2 r_1.2.2.2) (fun r_7 => nt r_7 (some (0, ((r_1.2.2.2 101 (((8 : Int32) * (r_1.2.2.2 108 x1.toNatClampNeg)) + x2).toNatClampNeg) - r_7.2.1), 0, r_7.2.2.2)))))) (some (0, (0 : Int32), 0, r_1.2.2.2))))
set_option maxHeartbeats 4000000 in
set_option maxRecDepth 100000 in
theorem b_M_needed_44 {l : Launch} {G : go_G} {ad : Nat → Nat} (hl : l.stackTraces = false) {r : go_R}  (x1 : Int32) (x2 : Int32) (x3 : Int32) (y1 : Int32) (y2 : Int32) (v : go_V) (h : f_M_needed_44  x1 x2 x3 y1 y2 v = some r) : Go l G M_M_needed go_Ex0 (go_E G ad 1 r 0 0) ad v [(0, .ref (ad (100))), (1, .int x1), (2, .int x2), (3, .int x3)] 44 [.int y2, .int y1, .ref (ad (100))] 0 0 := by
  unfold f_M_needed_44 at h
  refine go_iconst (x := (0 : Int32)) (d_M_needed 44 rfl) (by decide) ?_
  obtain ⟨r_1, o_2, h⟩ := bd_some h
  obtain ⟨z_3, h⟩ := nt_some h
  refine go_cV (As := [.int y1, .int y2, .int ((0 : Int32))]) (rest := []) (st2 := [.int (r_1.2.1)]) (c2 := 0) (s2 := 0) rfl rfl rfl rfl (Ca_M_throwing hl o_2)  (d_M_needed 45 rfl) cw_M_84 ⟨w_643, w_18⟩ rfl (by decide) rfl ⟨by decide, by decide⟩ rfl (Nat.le_of_ble_eq_true rfl) ⟨by decide, by decide⟩ (fun _ => ?_) (fun q => absurd z_3 q)
  rcases br_some h with ⟨c_4, h⟩ | ⟨c_4, h⟩
  · refine go_if_eq (tgt := 53) (d_M_needed 48 rfl) (by decide) (fun _ => ?_) (fun q => absurd (of_decide_eq_true c_4) q)
    refine go_aload_n (d_M_needed 53 rfl) rfl rfl ?_
    refine go_getR (d_M_needed 54 rfl) fl_M_7 rfl rfl ?_
    show Go _ _ _ _ _ _ _ _ _ (.ref (ad (101)) :: []) _ _
    refine go_bipush (x := (8 : Int32)) (d_M_needed 57 rfl) (by decide) ?_
    refine go_aload_n (d_M_needed 59 rfl) rfl rfl ?_
    refine go_getR (d_M_needed 60 rfl) fl_M_32 rfl rfl ?_
    show Go _ _ _ _ _ _ _ _ _ (.ref (ad (108)) :: .int ((8 : Int32)) :: .ref (ad (101)) :: []) _ _
    refine go_iload_n (d_M_needed 63 rfl) rfl rfl ?_
    obtain ⟨g_5, h⟩ := gd_some h
    refine go_iald (d_M_needed 64 rfl) rfl g_5 ?_
    refine go_imul (d_M_needed 65 rfl) ?_
    refine go_iload_n (d_M_needed 66 rfl) rfl rfl ?_
    refine go_iadd (d_M_needed 67 rfl) ?_
    obtain ⟨g_6, h⟩ := gd_some h
    refine go_iald (d_M_needed 68 rfl) rfl g_6 ?_
    refine go_aload_n (d_M_needed 69 rfl) rfl rfl ?_
    refine go_iload_n (d_M_needed 70 rfl) rfl rfl ?_
    refine go_iload_n (d_M_needed 71 rfl) rfl rfl ?_
    obtain ⟨r_7, o_8, h⟩ := bd_some h
    obtain ⟨z_9, h⟩ := nt_some h
    refine go_cV (As := [.int x1, .int x2]) (rest := [.int ((r_1.2.2.2 101 (((8 : Int32) * (r_1.2.2.2 108 x1.toNatClampNeg)) + x2).toNatClampNeg))]) (st2 := [.int (r_7.2.1), .int ((r_1.2.2.2 101 (((8 : Int32) * (r_1.2.2.2 108 x1.toNatClampNeg)) + x2).toNatClampNeg))]) (c2 := 0) (s2 := 0) rfl rfl rfl rfl (Ca_M_withSkill hl o_8)  (d_M_needed 72 rfl) cw_M_124 ⟨w_713, w_25⟩ rfl (by decide) rfl ⟨by decide, by decide⟩ rfl (Nat.le_of_ble_eq_true rfl) ⟨by decide, by decide⟩ (fun _ => ?_) (fun q => absurd z_9 q)
    refine go_isub (d_M_needed 75 rfl) ?_
    exact go_iret (d_M_needed 76 rfl) rfl rfl (Option.some.inj h) (by decide) (by decide)
  · refine go_if_eq (tgt := 53) (d_M_needed 48 rfl) (by decide) (fun q => absurd q (of_decide_eq_false c_4)) (fun _ => ?_)
    refine go_iconst (x := (0 : Int32)) (d_M_needed 51 rfl) (by decide) ?_
    exact go_iret (d_M_needed 52 rfl) rfl rfl (Option.some.inj h) (by decide) (by decide)
def f_M_needed_43  (x1 : Int32) (x2 : Int32) (x3 : Int32) (y1 : Int32) (v : go_V) : Option go_R := f_M_needed_44  (x1) (x2) (x3) (y1) ((0 : Int32)) (v)
set_option maxHeartbeats 4000000 in
set_option maxRecDepth 100000 in
theorem b_M_needed_43 {l : Launch} {G : go_G} {ad : Nat → Nat} (hl : l.stackTraces = false) {r : go_R}  (x1 : Int32) (x2 : Int32) (x3 : Int32) (y1 : Int32) (v : go_V) (h : f_M_needed_43  x1 x2 x3 y1 v = some r) : Go l G M_M_needed go_Ex0 (go_E G ad 1 r 0 0) ad v [(0, .ref (ad (100))), (1, .int x1), (2, .int x2), (3, .int x3)] 43 [.int y1, .ref (ad (100))] 0 0 := by
  unfold f_M_needed_43 at h
  refine go_iconst (x := (0 : Int32)) (d_M_needed 43 rfl) (by decide) ?_
  exact b_M_needed_44 hl  (x1) (x2) (x3) (y1) ((0 : Int32)) (v) h
def f_M_needed_23  (x1 : Int32) (x2 : Int32) (y0 : Int32) (v : go_V) : Option go_R := br (decide (y0 = 0)) (gd (go_in x1 12) (br (decide ((v 107 x1.toNatClampNeg) = 0)) (f_M_needed_44  (x1) (x2) (y0) (y0) ((1 : Int32)) (v)) (f_M_needed_43  (x1) (x2) (y0) (y0) (v)))) (f_M_needed_43  (x1) (x2) (y0) (y0) (v))
set_option maxHeartbeats 4000000 in
set_option maxRecDepth 100000 in
theorem b_M_needed_23 {l : Launch} {G : go_G} {ad : Nat → Nat} (hl : l.stackTraces = false) {r : go_R}  (x1 : Int32) (x2 : Int32) (y0 : Int32) (v : go_V) (h : f_M_needed_23  x1 x2 y0 v = some r) : Go l G M_M_needed go_Ex0 (go_E G ad 1 r 0 0) ad v [(0, .ref (ad (100))), (1, .int x1), (2, .int x2)] 23 [.int y0] 0 0 := by
  unfold f_M_needed_23 at h
  refine go_istore_n (lv' := [(0, .ref (ad (100))), (1, .int x1), (2, .int x2), (3, .int y0)]) (d_M_needed 23 rfl) rfl (by decide) rfl ?_
  refine go_aload_n (d_M_needed 24 rfl) rfl rfl ?_
  refine go_iload_n (d_M_needed 25 rfl) rfl rfl ?_
  refine go_iload_n (d_M_needed 26 rfl) rfl rfl ?_
  rcases br_some h with ⟨c_1, h⟩ | ⟨c_1, h⟩
  · refine go_if_ne (tgt := 43) (d_M_needed 27 rfl) (by decide) (fun q => absurd (of_decide_eq_true c_1) q) (fun _ => ?_)
    refine go_aload_n (d_M_needed 30 rfl) rfl rfl ?_
    refine go_getR (d_M_needed 31 rfl) fl_M_28 rfl rfl ?_
    show Go _ _ _ _ _ _ _ _ _ (.ref (ad (107)) :: .int y0 :: .ref (ad (100)) :: []) _ _
    refine go_iload_n (d_M_needed 34 rfl) rfl rfl ?_
    obtain ⟨g_2, h⟩ := gd_some h
    refine go_zald (d_M_needed 35 rfl) rfl g_2 ?_
    rcases br_some h with ⟨c_3, h⟩ | ⟨c_3, h⟩
    · refine go_if_ne (tgt := 43) (d_M_needed 36 rfl) (by decide) (fun q => absurd (of_decide_eq_true c_3) q) (fun _ => ?_)
      refine go_iconst (x := (1 : Int32)) (d_M_needed 39 rfl) (by decide) ?_
      refine go_goto (tgt := 44) (d_M_needed 40 rfl) (by decide) ?_
      exact b_M_needed_44 hl  (x1) (x2) (y0) (y0) ((1 : Int32)) (v) h
    · refine go_if_ne (tgt := 43) (d_M_needed 36 rfl) (by decide) (fun _ => ?_) (fun q => absurd q (of_decide_eq_false c_3))
      exact b_M_needed_43 hl  (x1) (x2) (y0) (y0) (v) h
  · refine go_if_ne (tgt := 43) (d_M_needed 27 rfl) (by decide) (fun _ => ?_) (fun q => absurd q (of_decide_eq_false c_1))
    exact b_M_needed_43 hl  (x1) (x2) (y0) (y0) (v) h
def f_M_needed_18  (x1 : Int32) (x2 : Int32) (v : go_V) : Option go_R := f_M_needed_23  (x1) (x2) ((1 : Int32)) (v)
set_option maxHeartbeats 4000000 in
set_option maxRecDepth 100000 in
theorem b_M_needed_18 {l : Launch} {G : go_G} {ad : Nat → Nat} (hl : l.stackTraces = false) {r : go_R}  (x1 : Int32) (x2 : Int32) (v : go_V) (h : f_M_needed_18  x1 x2 v = some r) : Go l G M_M_needed go_Ex0 (go_E G ad 1 r 0 0) ad v [(0, .ref (ad (100))), (1, .int x1), (2, .int x2)] 18 [] 0 0 := by
  unfold f_M_needed_18 at h
  refine go_iconst (x := (1 : Int32)) (d_M_needed 18 rfl) (by decide) ?_
  refine go_goto (tgt := 23) (d_M_needed 19 rfl) (by decide) ?_
  exact b_M_needed_23 hl  (x1) (x2) ((1 : Int32)) (v) h
def f_M_needed (x1 : Int32) (x2 : Int32) (v : go_V) : Option go_R := bd (f_M_isIncident x1 v) (fun r_1 => nt r_1 (br (decide (r_1.2.1 = 0)) (f_M_needed_18  (x1) (x2) (r_1.2.2.2)) (bd (f_M_in x2 (0 : Int32) (7 : Int32) r_1.2.2.2) (fun r_5 => nt r_5 (br (decide (r_5.2.1 = 0)) (f_M_needed_18  (x1) (x2) (r_5.2.2.2)) (f_M_needed_23  (x1) (x2) ((0 : Int32)) (r_5.2.2.2)))))))
set_option maxHeartbeats 4000000 in
set_option maxRecDepth 100000 in
theorem Ca_M_needed {l : Launch} {G : go_G} {ad : Nat → Nat} (hl : l.stackTraces = false) {r : go_R} {x1 : Int32} {x2 : Int32} {v : go_V} (h : f_M_needed x1 x2 v = some r) : Ca l G y_M_needed (.code y_M_needed c_M_needed 4 (some .int) :: go_TT) (rmD 2 0) 1 ad [.ref (ad (100)), .int x1, .int x2] v r := by
  unfold f_M_needed at h
  refine go_body (own := RM) (by decide) rfl (Nat.le_of_ble_eq_true rfl) ?_
  show Go l G M_M_needed go_Ex0 (go_E G ad 1 r 0 0) ad v [(0, .ref (ad (100))), (1, .int x1), (2, .int x2)] 0 [] 0 0
  refine go_aload_n (d_M_needed 0 rfl) rfl rfl ?_
  refine go_iload_n (d_M_needed 1 rfl) rfl rfl ?_
  obtain ⟨r_1, o_2, h⟩ := bd_some h
  obtain ⟨z_3, h⟩ := nt_some h
  refine go_cV (As := [.int x1]) (rest := []) (st2 := [.int (r_1.2.1)]) (c2 := 0) (s2 := 0) rfl rfl rfl rfl (Ca_M_isIncident hl o_2)  (d_M_needed 2 rfl) cw_M_77 ⟨w_664, w_19⟩ rfl (by decide) rfl ⟨by decide, by decide⟩ rfl (Nat.le_of_ble_eq_true rfl) ⟨by decide, by decide⟩ (fun _ => ?_) (fun q => absurd z_3 q)
  rcases br_some h with ⟨c_4, h⟩ | ⟨c_4, h⟩
  · refine go_if_eq (tgt := 18) (d_M_needed 5 rfl) (by decide) (fun _ => ?_) (fun q => absurd (of_decide_eq_true c_4) q)
    exact b_M_needed_18 hl  (x1) (x2) (r_1.2.2.2) h
  · refine go_if_eq (tgt := 18) (d_M_needed 5 rfl) (by decide) (fun q => absurd q (of_decide_eq_false c_4)) (fun _ => ?_)
    refine go_iload_n (d_M_needed 8 rfl) rfl rfl ?_
    refine go_iconst (x := (0 : Int32)) (d_M_needed 9 rfl) (by decide) ?_
    refine go_bipush (x := (7 : Int32)) (d_M_needed 10 rfl) (by decide) ?_
    obtain ⟨r_5, o_6, h⟩ := bd_some h
    obtain ⟨z_7, h⟩ := nt_some h
    refine go_cS (As := [.int x2, .int ((0 : Int32)), .int ((7 : Int32))]) (rest := []) (st2 := [.int (r_5.2.1)]) (c2 := 0) (s2 := 0) rfl rfl rfl rfl (Ca_M_in hl o_6)  (d_M_needed 12 rfl) cw_M_73 w_639 ⟨by decide, by decide⟩ rfl (Nat.le_of_ble_eq_true rfl) ⟨by decide, by decide⟩ (fun _ => ?_) (fun q => absurd z_7 q)
    rcases br_some h with ⟨c_8, h⟩ | ⟨c_8, h⟩
    · refine go_if_ne (tgt := 22) (d_M_needed 15 rfl) (by decide) (fun q => absurd (of_decide_eq_true c_8) q) (fun _ => ?_)
      exact b_M_needed_18 hl  (x1) (x2) (r_5.2.2.2) h
    · refine go_if_ne (tgt := 22) (d_M_needed 15 rfl) (by decide) (fun _ => ?_) (fun q => absurd q (of_decide_eq_false c_8))
      refine go_iconst (x := (0 : Int32)) (d_M_needed 22 rfl) (by decide) ?_
      exact b_M_needed_23 hl  (x1) (x2) ((0 : Int32)) (r_5.2.2.2) h
abbrev M_M_incident : go_M := (c_M_incident, 3, (some .int), RM, [], rmD 2 0)
def f_M_incident_24  (x1 : Int32) (x2 : Int32) (y1 : Int32) (v : go_V) : Option go_R := bd (f_M_throwing y1 (0 : Int32) (0 : Int32) v) (fun r_1 => nt r_1 (br (decide (r_1.2.1 = 0)) (br (go_in x2 6) (br (Nat.beq x2.toNatClampNeg 0) (gd (go_in x1 12) (some (0, (r_1.2.2.2 108 x1.toNatClampNeg), 0, r_1.2.2.2))) (br (Nat.beq x2.toNatClampNeg 1) (gd (go_in x1 12) (br (decide ((r_1.2.2.2 107 x1.toNatClampNeg) = 0)) (some (0, (0 : Int32), 0, r_1.2.2.2)) (some (0, (1 : Int32), 0, r_1.2.2.2)))) (br (Nat.beq x2.toNatClampNeg 2) (gd (go_in x1 12) (some (0, (r_1.2.2.2 109 x1.toNatClampNeg), 0, r_1.2.2.2))) (br (Nat.beq x2.toNatClampNeg 3) (gd (go_in x1 12) (some (0, (r_1.2.2.2 110 x1.toNatClampNeg), 0, r_1.2.2.2))) (br (Nat.beq x2.toNatClampNeg 4) (gd (go_in x1 12) (some (0, (r_1.2.2.2 111 x1.toNatClampNeg), 0, r_1.2.2.2))) (br (Nat.beq x2.toNatClampNeg 5) (gd (go_in x1 12) (some (0, (r_1.2.2.2 112 x1.toNatClampNeg), 0, r_1.2.2.2))) (none))))))) (gd (go_in x1 12) (some (0, (r_1.2.2.2 113 x1.toNatClampNeg), 0, r_1.2.2.2)))) (some (0, (0 : Int32), 0, r_1.2.2.2))))
set_option maxHeartbeats 4000000 in
set_option maxRecDepth 100000 in
theorem b_M_incident_24 {l : Launch} {G : go_G} {ad : Nat → Nat} (hl : l.stackTraces = false) {r : go_R}  (x1 : Int32) (x2 : Int32) (y1 : Int32) (v : go_V) (h : f_M_incident_24  x1 x2 y1 v = some r) : Go l G M_M_incident go_Ex0 (go_E G ad 1 r 0 0) ad v [(0, .ref (ad (100))), (1, .int x1), (2, .int x2)] 24 [.int y1, .ref (ad (100))] 0 0 := by
  unfold f_M_incident_24 at h
  refine go_iconst (x := (0 : Int32)) (d_M_incident 24 rfl) (by decide) ?_
  refine go_iconst (x := (0 : Int32)) (d_M_incident 25 rfl) (by decide) ?_
  obtain ⟨r_1, o_2, h⟩ := bd_some h
  obtain ⟨z_3, h⟩ := nt_some h
  refine go_cV (As := [.int y1, .int ((0 : Int32)), .int ((0 : Int32))]) (rest := []) (st2 := [.int (r_1.2.1)]) (c2 := 0) (s2 := 0) rfl rfl rfl rfl (Ca_M_throwing hl o_2)  (d_M_incident 26 rfl) cw_M_84 ⟨w_643, w_18⟩ rfl (by decide) rfl ⟨by decide, by decide⟩ rfl (Nat.le_of_ble_eq_true rfl) ⟨by decide, by decide⟩ (fun _ => ?_) (fun q => absurd z_3 q)
  rcases br_some h with ⟨c_4, h⟩ | ⟨c_4, h⟩
  · refine go_if_eq (tgt := 34) (d_M_incident 29 rfl) (by decide) (fun _ => ?_) (fun q => absurd (of_decide_eq_true c_4) q)
    refine go_iload_n (d_M_incident 34 rfl) rfl rfl ?_
    rcases br_some h with ⟨c_5, h⟩ | ⟨c_5, h⟩
    · rcases br_some h with ⟨c_7, h⟩ | ⟨c_7, h⟩
      · refine go_tsw (tgt := 72) (n := 5) (d_M_incident 35 rfl) c_5 rfl c_7 rfl (by decide) ?_
        refine go_aload_n (d_M_incident 72 rfl) rfl rfl ?_
        refine go_getR (d_M_incident 73 rfl) fl_M_32 rfl rfl ?_
        show Go _ _ _ _ _ _ _ _ _ (.ref (ad (108)) :: []) _ _
        refine go_iload_n (d_M_incident 76 rfl) rfl rfl ?_
        obtain ⟨g_8, h⟩ := gd_some h
        refine go_iald (d_M_incident 77 rfl) rfl g_8 ?_
        exact go_iret (d_M_incident 78 rfl) rfl rfl (Option.some.inj h) (by decide) (by decide)
      rcases br_some h with ⟨c_9, h⟩ | ⟨c_9, h⟩
      · refine go_tsw (tgt := 79) (n := 5) (d_M_incident 35 rfl) c_5 rfl c_9 rfl (by decide) ?_
        refine go_aload_n (d_M_incident 79 rfl) rfl rfl ?_
        refine go_getR (d_M_incident 80 rfl) fl_M_28 rfl rfl ?_
        show Go _ _ _ _ _ _ _ _ _ (.ref (ad (107)) :: []) _ _
        refine go_iload_n (d_M_incident 83 rfl) rfl rfl ?_
        obtain ⟨g_10, h⟩ := gd_some h
        refine go_zald (d_M_incident 84 rfl) rfl g_10 ?_
        rcases br_some h with ⟨c_11, h⟩ | ⟨c_11, h⟩
        · refine go_if_eq (tgt := 92) (d_M_incident 85 rfl) (by decide) (fun _ => ?_) (fun q => absurd (of_decide_eq_true c_11) q)
          refine go_iconst (x := (0 : Int32)) (d_M_incident 92 rfl) (by decide) ?_
          exact go_iret (d_M_incident 93 rfl) rfl rfl (Option.some.inj h) (by decide) (by decide)
        · refine go_if_eq (tgt := 92) (d_M_incident 85 rfl) (by decide) (fun q => absurd q (of_decide_eq_false c_11)) (fun _ => ?_)
          refine go_iconst (x := (1 : Int32)) (d_M_incident 88 rfl) (by decide) ?_
          refine go_goto (tgt := 93) (d_M_incident 89 rfl) (by decide) ?_
          exact go_iret (d_M_incident 93 rfl) rfl rfl (Option.some.inj h) (by decide) (by decide)
      rcases br_some h with ⟨c_12, h⟩ | ⟨c_12, h⟩
      · refine go_tsw (tgt := 94) (n := 5) (d_M_incident 35 rfl) c_5 rfl c_12 rfl (by decide) ?_
        refine go_aload_n (d_M_incident 94 rfl) rfl rfl ?_
        refine go_getR (d_M_incident 95 rfl) fl_M_35 rfl rfl ?_
        show Go _ _ _ _ _ _ _ _ _ (.ref (ad (109)) :: []) _ _
        refine go_iload_n (d_M_incident 98 rfl) rfl rfl ?_
        obtain ⟨g_13, h⟩ := gd_some h
        refine go_iald (d_M_incident 99 rfl) rfl g_13 ?_
        exact go_iret (d_M_incident 100 rfl) rfl rfl (Option.some.inj h) (by decide) (by decide)
      rcases br_some h with ⟨c_14, h⟩ | ⟨c_14, h⟩
      · refine go_tsw (tgt := 101) (n := 5) (d_M_incident 35 rfl) c_5 rfl c_14 rfl (by decide) ?_
        refine go_aload_n (d_M_incident 101 rfl) rfl rfl ?_
        refine go_getR (d_M_incident 102 rfl) fl_M_38 rfl rfl ?_
        show Go _ _ _ _ _ _ _ _ _ (.ref (ad (110)) :: []) _ _
        refine go_iload_n (d_M_incident 105 rfl) rfl rfl ?_
        obtain ⟨g_15, h⟩ := gd_some h
        refine go_iald (d_M_incident 106 rfl) rfl g_15 ?_
        exact go_iret (d_M_incident 107 rfl) rfl rfl (Option.some.inj h) (by decide) (by decide)
      rcases br_some h with ⟨c_16, h⟩ | ⟨c_16, h⟩
      · refine go_tsw (tgt := 108) (n := 5) (d_M_incident 35 rfl) c_5 rfl c_16 rfl (by decide) ?_
        refine go_aload_n (d_M_incident 108 rfl) rfl rfl ?_
        refine go_getR (d_M_incident 109 rfl) fl_M_41 rfl rfl ?_
        show Go _ _ _ _ _ _ _ _ _ (.ref (ad (111)) :: []) _ _
        refine go_iload_n (d_M_incident 112 rfl) rfl rfl ?_
        obtain ⟨g_17, h⟩ := gd_some h
        refine go_iald (d_M_incident 113 rfl) rfl g_17 ?_
        exact go_iret (d_M_incident 114 rfl) rfl rfl (Option.some.inj h) (by decide) (by decide)
      rcases br_some h with ⟨c_18, h⟩ | ⟨c_18, h⟩
      · refine go_tsw (tgt := 115) (n := 5) (d_M_incident 35 rfl) c_5 rfl c_18 rfl (by decide) ?_
        refine go_aload_n (d_M_incident 115 rfl) rfl rfl ?_
        refine go_getR (d_M_incident 116 rfl) fl_M_44 rfl rfl ?_
        show Go _ _ _ _ _ _ _ _ _ (.ref (ad (112)) :: []) _ _
        refine go_iload_n (d_M_incident 119 rfl) rfl rfl ?_
        obtain ⟨g_19, h⟩ := gd_some h
        refine go_iald (d_M_incident 120 rfl) rfl g_19 ?_
        exact go_iret (d_M_incident 121 rfl) rfl rfl (Option.some.inj h) (by decide) (by decide)
      cases h
    · refine go_tswO (tgt := 122) (n := 5) (d_M_incident 35 rfl) c_5 rfl (by decide) ?_
      refine go_aload_n (d_M_incident 122 rfl) rfl rfl ?_
      refine go_getR (d_M_incident 123 rfl) fl_M_47 rfl rfl ?_
      show Go _ _ _ _ _ _ _ _ _ (.ref (ad (113)) :: []) _ _
      refine go_iload_n (d_M_incident 126 rfl) rfl rfl ?_
      obtain ⟨g_6, h⟩ := gd_some h
      refine go_iald (d_M_incident 127 rfl) rfl g_6 ?_
      exact go_iret (d_M_incident 128 rfl) rfl rfl (Option.some.inj h) (by decide) (by decide)
  · refine go_if_eq (tgt := 34) (d_M_incident 29 rfl) (by decide) (fun q => absurd q (of_decide_eq_false c_4)) (fun _ => ?_)
    refine go_iconst (x := (0 : Int32)) (d_M_incident 32 rfl) (by decide) ?_
    exact go_iret (d_M_incident 33 rfl) rfl rfl (Option.some.inj h) (by decide) (by decide)
def f_M_incident_19  (x1 : Int32) (x2 : Int32) (v : go_V) : Option go_R := f_M_incident_24  (x1) (x2) ((1 : Int32)) (v)
set_option maxHeartbeats 4000000 in
set_option maxRecDepth 100000 in
theorem b_M_incident_19 {l : Launch} {G : go_G} {ad : Nat → Nat} (hl : l.stackTraces = false) {r : go_R}  (x1 : Int32) (x2 : Int32) (v : go_V) (h : f_M_incident_19  x1 x2 v = some r) : Go l G M_M_incident go_Ex0 (go_E G ad 1 r 0 0) ad v [(0, .ref (ad (100))), (1, .int x1), (2, .int x2)] 19 [.ref (ad (100))] 0 0 := by
  unfold f_M_incident_19 at h
  refine go_iconst (x := (1 : Int32)) (d_M_incident 19 rfl) (by decide) ?_
  refine go_goto (tgt := 24) (d_M_incident 20 rfl) (by decide) ?_
  exact b_M_incident_24 hl  (x1) (x2) ((1 : Int32)) (v) h
def f_M_incident (x1 : Int32) (x2 : Int32) (v : go_V) : Option go_R := bd (f_M_isIncident x1 v) (fun r_1 => nt r_1 (br (decide (r_1.2.1 = 0)) (f_M_incident_19  (x1) (x2) (r_1.2.2.2)) (bd (f_M_in x2 (0 : Int32) (6 : Int32) r_1.2.2.2) (fun r_5 => nt r_5 (br (decide (r_5.2.1 = 0)) (f_M_incident_19  (x1) (x2) (r_5.2.2.2)) (f_M_incident_24  (x1) (x2) ((0 : Int32)) (r_5.2.2.2)))))))
set_option maxHeartbeats 4000000 in
set_option maxRecDepth 100000 in
theorem Ca_M_incident {l : Launch} {G : go_G} {ad : Nat → Nat} (hl : l.stackTraces = false) {r : go_R} {x1 : Int32} {x2 : Int32} {v : go_V} (h : f_M_incident x1 x2 v = some r) : Ca l G y_M_incident (.code y_M_incident c_M_incident 3 (some .int) :: go_TT) (rmD 2 0) 1 ad [.ref (ad (100)), .int x1, .int x2] v r := by
  unfold f_M_incident at h
  refine go_body (own := RM) (by decide) rfl (Nat.le_of_ble_eq_true rfl) ?_
  show Go l G M_M_incident go_Ex0 (go_E G ad 1 r 0 0) ad v [(0, .ref (ad (100))), (1, .int x1), (2, .int x2)] 0 [] 0 0
  refine go_aload_n (d_M_incident 0 rfl) rfl rfl ?_
  refine go_aload_n (d_M_incident 1 rfl) rfl rfl ?_
  refine go_iload_n (d_M_incident 2 rfl) rfl rfl ?_
  obtain ⟨r_1, o_2, h⟩ := bd_some h
  obtain ⟨z_3, h⟩ := nt_some h
  refine go_cV (As := [.int x1]) (rest := [.ref (ad (100))]) (st2 := [.int (r_1.2.1), .ref (ad (100))]) (c2 := 0) (s2 := 0) rfl rfl rfl rfl (Ca_M_isIncident hl o_2)  (d_M_incident 3 rfl) cw_M_77 ⟨w_664, w_19⟩ rfl (by decide) rfl ⟨by decide, by decide⟩ rfl (Nat.le_of_ble_eq_true rfl) ⟨by decide, by decide⟩ (fun _ => ?_) (fun q => absurd z_3 q)
  rcases br_some h with ⟨c_4, h⟩ | ⟨c_4, h⟩
  · refine go_if_eq (tgt := 19) (d_M_incident 6 rfl) (by decide) (fun _ => ?_) (fun q => absurd (of_decide_eq_true c_4) q)
    exact b_M_incident_19 hl  (x1) (x2) (r_1.2.2.2) h
  · refine go_if_eq (tgt := 19) (d_M_incident 6 rfl) (by decide) (fun q => absurd q (of_decide_eq_false c_4)) (fun _ => ?_)
    refine go_iload_n (d_M_incident 9 rfl) rfl rfl ?_
    refine go_iconst (x := (0 : Int32)) (d_M_incident 10 rfl) (by decide) ?_
    refine go_bipush (x := (6 : Int32)) (d_M_incident 11 rfl) (by decide) ?_
    obtain ⟨r_5, o_6, h⟩ := bd_some h
    obtain ⟨z_7, h⟩ := nt_some h
    refine go_cS (As := [.int x2, .int ((0 : Int32)), .int ((6 : Int32))]) (rest := [.ref (ad (100))]) (st2 := [.int (r_5.2.1), .ref (ad (100))]) (c2 := 0) (s2 := 0) rfl rfl rfl rfl (Ca_M_in hl o_6)  (d_M_incident 13 rfl) cw_M_73 w_639 ⟨by decide, by decide⟩ rfl (Nat.le_of_ble_eq_true rfl) ⟨by decide, by decide⟩ (fun _ => ?_) (fun q => absurd z_7 q)
    rcases br_some h with ⟨c_8, h⟩ | ⟨c_8, h⟩
    · refine go_if_ne (tgt := 23) (d_M_incident 16 rfl) (by decide) (fun q => absurd (of_decide_eq_true c_8) q) (fun _ => ?_)
      exact b_M_incident_19 hl  (x1) (x2) (r_5.2.2.2) h
    · refine go_if_ne (tgt := 23) (d_M_incident 16 rfl) (by decide) (fun _ => ?_) (fun q => absurd q (of_decide_eq_false c_8))
      refine go_iconst (x := (0 : Int32)) (d_M_incident 23 rfl) (by decide) ?_
      exact b_M_incident_24 hl  (x1) (x2) ((0 : Int32)) (r_5.2.2.2) h
abbrev M_M_unitAt : go_M := (c_M_unitAt, 3, (some .int), RM, [], rmD 2 0)
def f_M_unitAt_23  (x1 : Int32) (x2 : Int32) (y1 : Int32) (v : go_V) : Option go_R := bd (f_M_throwing y1 (0 : Int32) (0 : Int32) v) (fun r_1 => nt r_1 (br (decide (r_1.2.1 = 0)) (br (decide (x2 = 0)) (gd (go_in x1 40) (some (0, (r_1.2.2.2 116 x1.toNatClampNeg), 0, r_1.2.2.2))) (br (decide (x2 = (1 : Int32))) (gd (go_in x1 40) (some (0, (r_1.2.2.2 117 x1.toNatClampNeg), 0, r_1.2.2.2))) (gd (go_in x1 40) (some (0, (r_1.2.2.2 118 x1.toNatClampNeg), 0, r_1.2.2.2))))) (some (0, (0 : Int32), 0, r_1.2.2.2))))
set_option maxHeartbeats 4000000 in
set_option maxRecDepth 100000 in
theorem b_M_unitAt_23 {l : Launch} {G : go_G} {ad : Nat → Nat} (hl : l.stackTraces = false) {r : go_R}  (x1 : Int32) (x2 : Int32) (y1 : Int32) (v : go_V) (h : f_M_unitAt_23  x1 x2 y1 v = some r) : Go l G M_M_unitAt go_Ex0 (go_E G ad 1 r 0 0) ad v [(0, .ref (ad (100))), (1, .int x1), (2, .int x2)] 23 [.int y1, .ref (ad (100))] 0 0 := by
  unfold f_M_unitAt_23 at h
  refine go_iconst (x := (0 : Int32)) (d_M_unitAt 23 rfl) (by decide) ?_
  refine go_iconst (x := (0 : Int32)) (d_M_unitAt 24 rfl) (by decide) ?_
  obtain ⟨r_1, o_2, h⟩ := bd_some h
  obtain ⟨z_3, h⟩ := nt_some h
  refine go_cV (As := [.int y1, .int ((0 : Int32)), .int ((0 : Int32))]) (rest := []) (st2 := [.int (r_1.2.1)]) (c2 := 0) (s2 := 0) rfl rfl rfl rfl (Ca_M_throwing hl o_2)  (d_M_unitAt 25 rfl) cw_M_84 ⟨w_643, w_18⟩ rfl (by decide) rfl ⟨by decide, by decide⟩ rfl (Nat.le_of_ble_eq_true rfl) ⟨by decide, by decide⟩ (fun _ => ?_) (fun q => absurd z_3 q)
  rcases br_some h with ⟨c_4, h⟩ | ⟨c_4, h⟩
  · refine go_if_eq (tgt := 33) (d_M_unitAt 28 rfl) (by decide) (fun _ => ?_) (fun q => absurd (of_decide_eq_true c_4) q)
    refine go_iload_n (d_M_unitAt 33 rfl) rfl rfl ?_
    rcases br_some h with ⟨c_5, h⟩ | ⟨c_5, h⟩
    · refine go_if_ne (tgt := 46) (d_M_unitAt 34 rfl) (by decide) (fun q => absurd (of_decide_eq_true c_5) q) (fun _ => ?_)
      refine go_aload_n (d_M_unitAt 37 rfl) rfl rfl ?_
      refine go_getR (d_M_unitAt 38 rfl) fl_M_56 rfl rfl ?_
      show Go _ _ _ _ _ _ _ _ _ (.ref (ad (116)) :: []) _ _
      refine go_iload_n (d_M_unitAt 41 rfl) rfl rfl ?_
      obtain ⟨g_9, h⟩ := gd_some h
      refine go_iald (d_M_unitAt 42 rfl) rfl g_9 ?_
      refine go_goto (tgt := 66) (d_M_unitAt 43 rfl) (by decide) ?_
      exact go_iret (d_M_unitAt 66 rfl) rfl rfl (Option.some.inj h) (by decide) (by decide)
    · refine go_if_ne (tgt := 46) (d_M_unitAt 34 rfl) (by decide) (fun _ => ?_) (fun q => absurd q (of_decide_eq_false c_5))
      refine go_iload_n (d_M_unitAt 46 rfl) rfl rfl ?_
      refine go_iconst (x := (1 : Int32)) (d_M_unitAt 47 rfl) (by decide) ?_
      rcases br_some h with ⟨c_6, h⟩ | ⟨c_6, h⟩
      · refine go_icmp_ne (tgt := 60) (d_M_unitAt 48 rfl) (by decide) (fun q => absurd (of_decide_eq_true c_6) q) (fun _ => ?_)
        refine go_aload_n (d_M_unitAt 51 rfl) rfl rfl ?_
        refine go_getR (d_M_unitAt 52 rfl) fl_M_59 rfl rfl ?_
        show Go _ _ _ _ _ _ _ _ _ (.ref (ad (117)) :: []) _ _
        refine go_iload_n (d_M_unitAt 55 rfl) rfl rfl ?_
        obtain ⟨g_8, h⟩ := gd_some h
        refine go_iald (d_M_unitAt 56 rfl) rfl g_8 ?_
        refine go_goto (tgt := 66) (d_M_unitAt 57 rfl) (by decide) ?_
        exact go_iret (d_M_unitAt 66 rfl) rfl rfl (Option.some.inj h) (by decide) (by decide)
      · refine go_icmp_ne (tgt := 60) (d_M_unitAt 48 rfl) (by decide) (fun _ => ?_) (fun q => absurd q (of_decide_eq_false c_6))
        refine go_aload_n (d_M_unitAt 60 rfl) rfl rfl ?_
        refine go_getR (d_M_unitAt 61 rfl) fl_M_62 rfl rfl ?_
        show Go _ _ _ _ _ _ _ _ _ (.ref (ad (118)) :: []) _ _
        refine go_iload_n (d_M_unitAt 64 rfl) rfl rfl ?_
        obtain ⟨g_7, h⟩ := gd_some h
        refine go_iald (d_M_unitAt 65 rfl) rfl g_7 ?_
        exact go_iret (d_M_unitAt 66 rfl) rfl rfl (Option.some.inj h) (by decide) (by decide)
  · refine go_if_eq (tgt := 33) (d_M_unitAt 28 rfl) (by decide) (fun q => absurd q (of_decide_eq_false c_4)) (fun _ => ?_)
    refine go_iconst (x := (0 : Int32)) (d_M_unitAt 31 rfl) (by decide) ?_
    exact go_iret (d_M_unitAt 32 rfl) rfl rfl (Option.some.inj h) (by decide) (by decide)
def f_M_unitAt_18  (x1 : Int32) (x2 : Int32) (v : go_V) : Option go_R := f_M_unitAt_23  (x1) (x2) ((1 : Int32)) (v)
set_option maxHeartbeats 4000000 in
set_option maxRecDepth 100000 in
theorem b_M_unitAt_18 {l : Launch} {G : go_G} {ad : Nat → Nat} (hl : l.stackTraces = false) {r : go_R}  (x1 : Int32) (x2 : Int32) (v : go_V) (h : f_M_unitAt_18  x1 x2 v = some r) : Go l G M_M_unitAt go_Ex0 (go_E G ad 1 r 0 0) ad v [(0, .ref (ad (100))), (1, .int x1), (2, .int x2)] 18 [.ref (ad (100))] 0 0 := by
  unfold f_M_unitAt_18 at h
  refine go_iconst (x := (1 : Int32)) (d_M_unitAt 18 rfl) (by decide) ?_
  refine go_goto (tgt := 23) (d_M_unitAt 19 rfl) (by decide) ?_
  exact b_M_unitAt_23 hl  (x1) (x2) ((1 : Int32)) (v) h
def f_M_unitAt (x1 : Int32) (x2 : Int32) (v : go_V) : Option go_R := bd (f_M_isUnit x1 v) (fun r_1 => nt r_1 (br (decide (r_1.2.1 = 0)) (f_M_unitAt_18  (x1) (x2) (r_1.2.2.2)) (bd (f_M_in x2 (0 : Int32) (2 : Int32) r_1.2.2.2) (fun r_5 => nt r_5 (br (decide (r_5.2.1 = 0)) (f_M_unitAt_18  (x1) (x2) (r_5.2.2.2)) (f_M_unitAt_23  (x1) (x2) ((0 : Int32)) (r_5.2.2.2)))))))
set_option maxHeartbeats 4000000 in
set_option maxRecDepth 100000 in
theorem Ca_M_unitAt {l : Launch} {G : go_G} {ad : Nat → Nat} (hl : l.stackTraces = false) {r : go_R} {x1 : Int32} {x2 : Int32} {v : go_V} (h : f_M_unitAt x1 x2 v = some r) : Ca l G y_M_unitAt (.code y_M_unitAt c_M_unitAt 3 (some .int) :: go_TT) (rmD 2 0) 1 ad [.ref (ad (100)), .int x1, .int x2] v r := by
  unfold f_M_unitAt at h
  refine go_body (own := RM) (by decide) rfl (Nat.le_of_ble_eq_true rfl) ?_
  show Go l G M_M_unitAt go_Ex0 (go_E G ad 1 r 0 0) ad v [(0, .ref (ad (100))), (1, .int x1), (2, .int x2)] 0 [] 0 0
  refine go_aload_n (d_M_unitAt 0 rfl) rfl rfl ?_
  refine go_aload_n (d_M_unitAt 1 rfl) rfl rfl ?_
  refine go_iload_n (d_M_unitAt 2 rfl) rfl rfl ?_
  obtain ⟨r_1, o_2, h⟩ := bd_some h
  obtain ⟨z_3, h⟩ := nt_some h
  refine go_cV (As := [.int x1]) (rest := [.ref (ad (100))]) (st2 := [.int (r_1.2.1), .ref (ad (100))]) (c2 := 0) (s2 := 0) rfl rfl rfl rfl (Ca_M_isUnit hl o_2)  (d_M_unitAt 3 rfl) cw_M_133 ⟨w_729, w_27⟩ rfl (by decide) rfl ⟨by decide, by decide⟩ rfl (Nat.le_of_ble_eq_true rfl) ⟨by decide, by decide⟩ (fun _ => ?_) (fun q => absurd z_3 q)
  rcases br_some h with ⟨c_4, h⟩ | ⟨c_4, h⟩
  · refine go_if_eq (tgt := 18) (d_M_unitAt 6 rfl) (by decide) (fun _ => ?_) (fun q => absurd (of_decide_eq_true c_4) q)
    exact b_M_unitAt_18 hl  (x1) (x2) (r_1.2.2.2) h
  · refine go_if_eq (tgt := 18) (d_M_unitAt 6 rfl) (by decide) (fun q => absurd q (of_decide_eq_false c_4)) (fun _ => ?_)
    refine go_iload_n (d_M_unitAt 9 rfl) rfl rfl ?_
    refine go_iconst (x := (0 : Int32)) (d_M_unitAt 10 rfl) (by decide) ?_
    refine go_iconst (x := (2 : Int32)) (d_M_unitAt 11 rfl) (by decide) ?_
    obtain ⟨r_5, o_6, h⟩ := bd_some h
    obtain ⟨z_7, h⟩ := nt_some h
    refine go_cS (As := [.int x2, .int ((0 : Int32)), .int ((2 : Int32))]) (rest := [.ref (ad (100))]) (st2 := [.int (r_5.2.1), .ref (ad (100))]) (c2 := 0) (s2 := 0) rfl rfl rfl rfl (Ca_M_in hl o_6)  (d_M_unitAt 12 rfl) cw_M_73 w_639 ⟨by decide, by decide⟩ rfl (Nat.le_of_ble_eq_true rfl) ⟨by decide, by decide⟩ (fun _ => ?_) (fun q => absurd z_7 q)
    rcases br_some h with ⟨c_8, h⟩ | ⟨c_8, h⟩
    · refine go_if_ne (tgt := 22) (d_M_unitAt 15 rfl) (by decide) (fun q => absurd (of_decide_eq_true c_8) q) (fun _ => ?_)
      exact b_M_unitAt_18 hl  (x1) (x2) (r_5.2.2.2) h
    · refine go_if_ne (tgt := 22) (d_M_unitAt 15 rfl) (by decide) (fun _ => ?_) (fun q => absurd q (of_decide_eq_false c_8))
      refine go_iconst (x := (0 : Int32)) (d_M_unitAt 22 rfl) (by decide) ?_
      exact b_M_unitAt_23 hl  (x1) (x2) ((0 : Int32)) (r_5.2.2.2) h
abbrev M_M_acted : go_M := (c_M_acted, 2, (some .int), RM, [], rmD 1 0)
def f_M_acted_20  (x1 : Int32) (y1 : Int32) (v : go_V) : Option go_R := bd (f_M_throwing y1 (0 : Int32) (0 : Int32) v) (fun r_1 => nt r_1 (br (decide (r_1.2.1 = 0)) (gd (go_in x1 20) (some (0, (r_1.2.2.2 106 x1.toNatClampNeg), 0, r_1.2.2.2))) (some (0, (0 : Int32), 0, r_1.2.2.2))))
set_option maxHeartbeats 4000000 in
set_option maxRecDepth 100000 in
theorem b_M_acted_20 {l : Launch} {G : go_G} {ad : Nat → Nat} (hl : l.stackTraces = false) {r : go_R}  (x1 : Int32) (y1 : Int32) (v : go_V) (h : f_M_acted_20  x1 y1 v = some r) : Go l G M_M_acted go_Ex0 (go_E G ad 1 r 0 0) ad v [(0, .ref (ad (100))), (1, .int x1)] 20 [.int y1, .ref (ad (100))] 0 0 := by
  unfold f_M_acted_20 at h
  refine go_iconst (x := (0 : Int32)) (d_M_acted 20 rfl) (by decide) ?_
  refine go_iconst (x := (0 : Int32)) (d_M_acted 21 rfl) (by decide) ?_
  obtain ⟨r_1, o_2, h⟩ := bd_some h
  obtain ⟨z_3, h⟩ := nt_some h
  refine go_cV (As := [.int y1, .int ((0 : Int32)), .int ((0 : Int32))]) (rest := []) (st2 := [.int (r_1.2.1)]) (c2 := 0) (s2 := 0) rfl rfl rfl rfl (Ca_M_throwing hl o_2)  (d_M_acted 22 rfl) cw_M_84 ⟨w_643, w_18⟩ rfl (by decide) rfl ⟨by decide, by decide⟩ rfl (Nat.le_of_ble_eq_true rfl) ⟨by decide, by decide⟩ (fun _ => ?_) (fun q => absurd z_3 q)
  rcases br_some h with ⟨c_4, h⟩ | ⟨c_4, h⟩
  · refine go_if_eq (tgt := 30) (d_M_acted 25 rfl) (by decide) (fun _ => ?_) (fun q => absurd (of_decide_eq_true c_4) q)
    refine go_aload_n (d_M_acted 30 rfl) rfl rfl ?_
    refine go_getR (d_M_acted 31 rfl) fl_M_25 rfl rfl ?_
    show Go _ _ _ _ _ _ _ _ _ (.ref (ad (106)) :: []) _ _
    refine go_iload_n (d_M_acted 34 rfl) rfl rfl ?_
    obtain ⟨g_5, h⟩ := gd_some h
    refine go_iald (d_M_acted 35 rfl) rfl g_5 ?_
    exact go_iret (d_M_acted 36 rfl) rfl rfl (Option.some.inj h) (by decide) (by decide)
  · refine go_if_eq (tgt := 30) (d_M_acted 25 rfl) (by decide) (fun q => absurd q (of_decide_eq_false c_4)) (fun _ => ?_)
    refine go_iconst (x := (0 : Int32)) (d_M_acted 28 rfl) (by decide) ?_
    exact go_iret (d_M_acted 29 rfl) rfl rfl (Option.some.inj h) (by decide) (by decide)
def f_M_acted (x1 : Int32) (v : go_V) : Option go_R := bd (f_M_in x1 (0 : Int32) ((v 100 4) - (1 : Int32)) v) (fun r_1 => nt r_1 (br (decide (r_1.2.1 = 0)) (f_M_acted_20  (x1) ((1 : Int32)) (r_1.2.2.2)) (f_M_acted_20  (x1) ((0 : Int32)) (r_1.2.2.2))))
set_option maxHeartbeats 4000000 in
set_option maxRecDepth 100000 in
theorem Ca_M_acted {l : Launch} {G : go_G} {ad : Nat → Nat} (hl : l.stackTraces = false) {r : go_R} {x1 : Int32} {v : go_V} (h : f_M_acted x1 v = some r) : Ca l G y_M_acted (.code y_M_acted c_M_acted 2 (some .int) :: go_TT) (rmD 1 0) 1 ad [.ref (ad (100)), .int x1] v r := by
  unfold f_M_acted at h
  refine go_body (own := RM) (by decide) rfl (Nat.le_of_ble_eq_true rfl) ?_
  show Go l G M_M_acted go_Ex0 (go_E G ad 1 r 0 0) ad v [(0, .ref (ad (100))), (1, .int x1)] 0 [] 0 0
  refine go_aload_n (d_M_acted 0 rfl) rfl rfl ?_
  refine go_iload_n (d_M_acted 1 rfl) rfl rfl ?_
  refine go_iconst (x := (0 : Int32)) (d_M_acted 2 rfl) (by decide) ?_
  refine go_aload_n (d_M_acted 3 rfl) rfl rfl ?_
  refine go_getI (d_M_acted 4 rfl) fl_M_92 rfl rfl ?_
  refine go_iconst (x := (1 : Int32)) (d_M_acted 7 rfl) (by decide) ?_
  refine go_isub (d_M_acted 8 rfl) ?_
  obtain ⟨r_1, o_2, h⟩ := bd_some h
  obtain ⟨z_3, h⟩ := nt_some h
  refine go_cS (As := [.int x1, .int ((0 : Int32)), .int (((v 100 4) - (1 : Int32)))]) (rest := [.ref (ad (100))]) (st2 := [.int (r_1.2.1), .ref (ad (100))]) (c2 := 0) (s2 := 0) rfl rfl rfl rfl (Ca_M_in hl o_2)  (d_M_acted 9 rfl) cw_M_73 w_639 ⟨by decide, by decide⟩ rfl (Nat.le_of_ble_eq_true rfl) ⟨by decide, by decide⟩ (fun _ => ?_) (fun q => absurd z_3 q)
  rcases br_some h with ⟨c_4, h⟩ | ⟨c_4, h⟩
  · refine go_if_ne (tgt := 19) (d_M_acted 12 rfl) (by decide) (fun q => absurd (of_decide_eq_true c_4) q) (fun _ => ?_)
    refine go_iconst (x := (1 : Int32)) (d_M_acted 15 rfl) (by decide) ?_
    refine go_goto (tgt := 20) (d_M_acted 16 rfl) (by decide) ?_
    exact b_M_acted_20 hl  (x1) ((1 : Int32)) (r_1.2.2.2) h
  · refine go_if_ne (tgt := 19) (d_M_acted 12 rfl) (by decide) (fun _ => ?_) (fun q => absurd q (of_decide_eq_false c_4))
    refine go_iconst (x := (0 : Int32)) (d_M_acted 19 rfl) (by decide) ?_
    exact b_M_acted_20 hl  (x1) ((0 : Int32)) (r_1.2.2.2) h
abbrev M_M_count : go_M := (c_M_count, 2, (some .int), RM, [], rmD 1 0)
def f_M_count_15  (x1 : Int32) (y1 : Int32) (v : go_V) : Option go_R := bd (f_M_throwing y1 (0 : Int32) (0 : Int32) v) (fun r_1 => nt r_1 (br (decide (r_1.2.1 = 0)) (br (decide (x1 = 0)) (some (0, (r_1.2.2.2 100 1), 0, r_1.2.2.2)) (br (decide (x1 = (1 : Int32))) (some (0, (r_1.2.2.2 100 24), 0, r_1.2.2.2)) (br (decide (x1 = (2 : Int32))) (some (0, (r_1.2.2.2 100 25), 0, r_1.2.2.2)) (some (0, (r_1.2.2.2 100 26), 0, r_1.2.2.2))))) (some (0, (0 : Int32), 0, r_1.2.2.2))))
set_option maxHeartbeats 4000000 in
set_option maxRecDepth 100000 in
theorem b_M_count_15 {l : Launch} {G : go_G} {ad : Nat → Nat} (hl : l.stackTraces = false) {r : go_R}  (x1 : Int32) (y1 : Int32) (v : go_V) (h : f_M_count_15  x1 y1 v = some r) : Go l G M_M_count go_Ex0 (go_E G ad 1 r 0 0) ad v [(0, .ref (ad (100))), (1, .int x1)] 15 [.int y1, .ref (ad (100))] 0 0 := by
  unfold f_M_count_15 at h
  refine go_iconst (x := (0 : Int32)) (d_M_count 15 rfl) (by decide) ?_
  refine go_iconst (x := (0 : Int32)) (d_M_count 16 rfl) (by decide) ?_
  obtain ⟨r_1, o_2, h⟩ := bd_some h
  obtain ⟨z_3, h⟩ := nt_some h
  refine go_cV (As := [.int y1, .int ((0 : Int32)), .int ((0 : Int32))]) (rest := []) (st2 := [.int (r_1.2.1)]) (c2 := 0) (s2 := 0) rfl rfl rfl rfl (Ca_M_throwing hl o_2)  (d_M_count 17 rfl) cw_M_84 ⟨w_643, w_18⟩ rfl (by decide) rfl ⟨by decide, by decide⟩ rfl (Nat.le_of_ble_eq_true rfl) ⟨by decide, by decide⟩ (fun _ => ?_) (fun q => absurd z_3 q)
  rcases br_some h with ⟨c_4, h⟩ | ⟨c_4, h⟩
  · refine go_if_eq (tgt := 25) (d_M_count 20 rfl) (by decide) (fun _ => ?_) (fun q => absurd (of_decide_eq_true c_4) q)
    refine go_iload_n (d_M_count 25 rfl) rfl rfl ?_
    rcases br_some h with ⟨c_5, h⟩ | ⟨c_5, h⟩
    · refine go_if_ne (tgt := 36) (d_M_count 26 rfl) (by decide) (fun q => absurd (of_decide_eq_true c_5) q) (fun _ => ?_)
      refine go_aload_n (d_M_count 29 rfl) rfl rfl ?_
      refine go_getI (d_M_count 30 rfl) fl_M_95 rfl rfl ?_
      refine go_goto (tgt := 64) (d_M_count 33 rfl) (by decide) ?_
      exact go_iret (d_M_count 64 rfl) rfl rfl (Option.some.inj h) (by decide) (by decide)
    · refine go_if_ne (tgt := 36) (d_M_count 26 rfl) (by decide) (fun _ => ?_) (fun q => absurd q (of_decide_eq_false c_5))
      refine go_iload_n (d_M_count 36 rfl) rfl rfl ?_
      refine go_iconst (x := (1 : Int32)) (d_M_count 37 rfl) (by decide) ?_
      rcases br_some h with ⟨c_6, h⟩ | ⟨c_6, h⟩
      · refine go_icmp_ne (tgt := 48) (d_M_count 38 rfl) (by decide) (fun q => absurd (of_decide_eq_true c_6) q) (fun _ => ?_)
        refine go_aload_n (d_M_count 41 rfl) rfl rfl ?_
        refine go_getI (d_M_count 42 rfl) fl_M_121 rfl rfl ?_
        refine go_goto (tgt := 64) (d_M_count 45 rfl) (by decide) ?_
        exact go_iret (d_M_count 64 rfl) rfl rfl (Option.some.inj h) (by decide) (by decide)
      · refine go_icmp_ne (tgt := 48) (d_M_count 38 rfl) (by decide) (fun _ => ?_) (fun q => absurd q (of_decide_eq_false c_6))
        refine go_iload_n (d_M_count 48 rfl) rfl rfl ?_
        refine go_iconst (x := (2 : Int32)) (d_M_count 49 rfl) (by decide) ?_
        rcases br_some h with ⟨c_7, h⟩ | ⟨c_7, h⟩
        · refine go_icmp_ne (tgt := 60) (d_M_count 50 rfl) (by decide) (fun q => absurd (of_decide_eq_true c_7) q) (fun _ => ?_)
          refine go_aload_n (d_M_count 53 rfl) rfl rfl ?_
          refine go_getI (d_M_count 54 rfl) fl_M_130 rfl rfl ?_
          refine go_goto (tgt := 64) (d_M_count 57 rfl) (by decide) ?_
          exact go_iret (d_M_count 64 rfl) rfl rfl (Option.some.inj h) (by decide) (by decide)
        · refine go_icmp_ne (tgt := 60) (d_M_count 50 rfl) (by decide) (fun _ => ?_) (fun q => absurd q (of_decide_eq_false c_7))
          refine go_aload_n (d_M_count 60 rfl) rfl rfl ?_
          refine go_getI (d_M_count 61 rfl) fl_M_109 rfl rfl ?_
          exact go_iret (d_M_count 64 rfl) rfl rfl (Option.some.inj h) (by decide) (by decide)
  · refine go_if_eq (tgt := 25) (d_M_count 20 rfl) (by decide) (fun q => absurd q (of_decide_eq_false c_4)) (fun _ => ?_)
    refine go_iconst (x := (0 : Int32)) (d_M_count 23 rfl) (by decide) ?_
    exact go_iret (d_M_count 24 rfl) rfl rfl (Option.some.inj h) (by decide) (by decide)
def f_M_count (x1 : Int32) (v : go_V) : Option go_R := bd (f_M_in x1 (0 : Int32) (3 : Int32) v) (fun r_1 => nt r_1 (br (decide (r_1.2.1 = 0)) (f_M_count_15  (x1) ((1 : Int32)) (r_1.2.2.2)) (f_M_count_15  (x1) ((0 : Int32)) (r_1.2.2.2))))
set_option maxHeartbeats 4000000 in
set_option maxRecDepth 100000 in
theorem Ca_M_count {l : Launch} {G : go_G} {ad : Nat → Nat} (hl : l.stackTraces = false) {r : go_R} {x1 : Int32} {v : go_V} (h : f_M_count x1 v = some r) : Ca l G y_M_count (.code y_M_count c_M_count 2 (some .int) :: go_TT) (rmD 1 0) 1 ad [.ref (ad (100)), .int x1] v r := by
  unfold f_M_count at h
  refine go_body (own := RM) (by decide) rfl (Nat.le_of_ble_eq_true rfl) ?_
  show Go l G M_M_count go_Ex0 (go_E G ad 1 r 0 0) ad v [(0, .ref (ad (100))), (1, .int x1)] 0 [] 0 0
  refine go_aload_n (d_M_count 0 rfl) rfl rfl ?_
  refine go_iload_n (d_M_count 1 rfl) rfl rfl ?_
  refine go_iconst (x := (0 : Int32)) (d_M_count 2 rfl) (by decide) ?_
  refine go_iconst (x := (3 : Int32)) (d_M_count 3 rfl) (by decide) ?_
  obtain ⟨r_1, o_2, h⟩ := bd_some h
  obtain ⟨z_3, h⟩ := nt_some h
  refine go_cS (As := [.int x1, .int ((0 : Int32)), .int ((3 : Int32))]) (rest := [.ref (ad (100))]) (st2 := [.int (r_1.2.1), .ref (ad (100))]) (c2 := 0) (s2 := 0) rfl rfl rfl rfl (Ca_M_in hl o_2)  (d_M_count 4 rfl) cw_M_73 w_639 ⟨by decide, by decide⟩ rfl (Nat.le_of_ble_eq_true rfl) ⟨by decide, by decide⟩ (fun _ => ?_) (fun q => absurd z_3 q)
  rcases br_some h with ⟨c_4, h⟩ | ⟨c_4, h⟩
  · refine go_if_ne (tgt := 14) (d_M_count 7 rfl) (by decide) (fun q => absurd (of_decide_eq_true c_4) q) (fun _ => ?_)
    refine go_iconst (x := (1 : Int32)) (d_M_count 10 rfl) (by decide) ?_
    refine go_goto (tgt := 15) (d_M_count 11 rfl) (by decide) ?_
    exact b_M_count_15 hl  (x1) ((1 : Int32)) (r_1.2.2.2) h
  · refine go_if_ne (tgt := 14) (d_M_count 7 rfl) (by decide) (fun _ => ?_) (fun q => absurd q (of_decide_eq_false c_4))
    refine go_iconst (x := (0 : Int32)) (d_M_count 14 rfl) (by decide) ?_
    exact b_M_count_15 hl  (x1) ((0 : Int32)) (r_1.2.2.2) h
end
section
/-! read back by wip/whole/dec.py: a function a method, and the rows that tie them -/
abbrev M_L_row : go_M := (c_L_row, 5, (some .int), RL, tableOf [(0, 7, 10, 13), (0, 7, 14, 15)], rmD 2 3)
def f_L_row (x1 : Int32) (x2 : Int32) (x3 : Int32) (v : go_V) : Option go_R := bd (f_S_row x1 x2 x3 v) (fun r_1 => br (Nat.beq r_1.1 0) (some (0, (0 : Int32), 0, r_1.2.2.2)) (br (Nat.beq r_1.1 1) (some (0, (1 : Int32), 0, r_1.2.2.2)) (br (Nat.beq r_1.1 2) (some (0, (2 : Int32), 0, r_1.2.2.2)) (none))))
set_option maxHeartbeats 4000000 in
set_option maxRecDepth 100000 in
theorem Ca_L_row {l : Launch} {G : go_G} {ad : Nat → Nat} (hl : l.stackTraces = false) {r : go_R} {x1 : Int32} {x2 : Int32} {x3 : Int32} {v : go_V} (h : f_L_row x1 x2 x3 v = some r) : Ca l G y_L_row (.codeWith y_L_row c_L_row 5 (some .int) [(0, 7, 10, 13), (0, 7, 14, 15)] :: go_TT) (rmD 2 3) 1 ad [.ref (ad (0)), .int x1, .int x2, .int x3] v r := by
  unfold f_L_row at h
  refine go_bodyX (own := RL) (by decide) rfl (Nat.le_of_ble_eq_true rfl) ?_
  show Go l G M_L_row go_Ex0 (go_E G ad 1 r 3 18) ad v [(0, .ref (ad (0))), (1, .int x1), (2, .int x2), (3, .int x3)] 0 [] 0 0
  refine go_aload_n (d_L_row 0 rfl) rfl rfl ?_
  refine go_iload_n (d_L_row 1 rfl) rfl rfl ?_
  refine go_iload_n (d_L_row 2 rfl) rfl rfl ?_
  refine go_iload_n (d_L_row 3 rfl) rfl rfl ?_
  obtain ⟨r_1, o_2, h⟩ := bd_some h
  rcases br_some h with ⟨z_3, h⟩ | ⟨z_3, h⟩
  · refine go_cV (As := [.int x1, .int x2, .int x3]) (rest := []) (st2 := []) (c2 := 3) (s2 := 18) rfl rfl rfl rfl (Ca_S_row hl o_2)  (d_L_row 4 rfl) cw_L_7 ⟨w_185, w_186⟩ rfl (by decide) rfl ⟨by decide, by decide⟩ rfl (Nat.le_of_ble_eq_true rfl) ⟨by decide, by decide⟩ (fun _ => ?_) (fun q => absurd (Nat.eq_of_beq_eq_true z_3) q)
    refine go_goto (tgt := 18) (d_L_row 7 rfl) (by decide) ?_
    refine go_iconst (x := (0 : Int32)) (d_L_row 18 rfl) (by decide) ?_
    exact go_iret (d_L_row 19 rfl) rfl rfl (Option.some.inj h) (by decide) (by decide)
  rcases br_some h with ⟨z_5, h⟩ | ⟨z_5, h⟩
  · refine go_cV (As := [.int x1, .int x2, .int x3]) (rest := []) (st2 := []) (c2 := 3) (s2 := 18) rfl rfl rfl rfl (Ca_S_row hl o_2)  (d_L_row 4 rfl) cw_L_7 ⟨w_185, w_186⟩ rfl (by decide) rfl ⟨by decide, by decide⟩ rfl (Nat.le_of_ble_eq_true rfl) ⟨by decide, by decide⟩ (fun q => absurd q (Nat.ne_of_beq_eq_false z_3)) (fun _ => ?_)
    rw [Nat.eq_of_beq_eq_true z_5]
    refine gx_catch [] ⟨0, 7, 10, 13⟩ [⟨0, 7, 14, 15⟩] rfl (fun y hy => nomatch hy) rfl (by decide) w_182 w_193 (fun q_4 => ?_)
    refine go_astore (lv' := [(0, .ref (ad (0))), (1, .int x1), (2, .int x2), (3, .int x3), (4, .ref q_4)]) (d_L_row 10 rfl) (by decide) rfl ?_
    refine go_iconst (x := (1 : Int32)) (d_L_row 12 rfl) (by decide) ?_
    exact go_iret (d_L_row 13 rfl) rfl rfl (Option.some.inj h) (by decide) (by decide)
  rcases br_some h with ⟨z_7, h⟩ | ⟨z_7, h⟩
  · refine go_cV (As := [.int x1, .int x2, .int x3]) (rest := []) (st2 := []) (c2 := 3) (s2 := 18) rfl rfl rfl rfl (Ca_S_row hl o_2)  (d_L_row 4 rfl) cw_L_7 ⟨w_185, w_186⟩ rfl (by decide) rfl ⟨by decide, by decide⟩ rfl (Nat.le_of_ble_eq_true rfl) ⟨by decide, by decide⟩ (fun q => absurd q (Nat.ne_of_beq_eq_false z_3)) (fun _ => ?_)
    rw [Nat.eq_of_beq_eq_true z_7]
    refine gx_catch [⟨0, 7, 10, 13⟩] ⟨0, 7, 14, 15⟩ [] rfl (fun y hy => by
      rcases (by simpa using hy : y = (⟨0, 7, 10, 13⟩ : ExceptionTableEntry)) with rfl
      · exact Or.inr ⟨by decide, _, w_182, by decide +kernel⟩) rfl (by decide) w_183 w_269 (fun q_6 => ?_)
    refine go_astore (lv' := [(0, .ref (ad (0))), (1, .int x1), (2, .int x2), (3, .int x3), (4, .ref q_6)]) (d_L_row 14 rfl) (by decide) rfl ?_
    refine go_iconst (x := (2 : Int32)) (d_L_row 16 rfl) (by decide) ?_
    exact go_iret (d_L_row 17 rfl) rfl rfl (Option.some.inj h) (by decide) (by decide)
  cases h
abbrev M_L_top : go_M := (c_L_top, 3, (some .int), RL, tableOf [(0, 5, 8, 13), (0, 5, 11, 21)], rmD 2 2)
def f_L_top (x1 : Int32) (v : go_V) : Option go_R := bd (f_S_top x1 v) (fun r_1 => br (Nat.beq r_1.1 0) (some (0, (0 : Int32), 0, r_1.2.2.2)) (br (Nat.beq r_1.1 1) (some (0, (1 : Int32), 0, r_1.2.2.2)) (br (Nat.beq r_1.1 3) (some (0, (2 : Int32), 0, r_1.2.2.2)) (none))))
set_option maxHeartbeats 4000000 in
set_option maxRecDepth 100000 in
theorem Ca_L_top {l : Launch} {G : go_G} {ad : Nat → Nat} (hl : l.stackTraces = false) {r : go_R} {x1 : Int32} {v : go_V} (h : f_L_top x1 v = some r) : Ca l G y_L_top (.codeWith y_L_top c_L_top 3 (some .int) [(0, 5, 8, 13), (0, 5, 11, 21)] :: go_TT) (rmD 2 2) 1 ad [.ref (ad (0)), .int x1] v r := by
  unfold f_L_top at h
  refine go_bodyX (own := RL) (by decide) rfl (Nat.le_of_ble_eq_true rfl) ?_
  show Go l G M_L_top go_Ex0 (go_E G ad 1 r 2 12) ad v [(0, .ref (ad (0))), (1, .int x1)] 0 [] 0 0
  refine go_aload_n (d_L_top 0 rfl) rfl rfl ?_
  refine go_iload_n (d_L_top 1 rfl) rfl rfl ?_
  obtain ⟨r_1, o_2, h⟩ := bd_some h
  rcases br_some h with ⟨z_3, h⟩ | ⟨z_3, h⟩
  · refine go_cV (As := [.int x1]) (rest := []) (st2 := []) (c2 := 2) (s2 := 12) rfl rfl rfl rfl (Ca_S_top hl o_2)  (d_L_top 2 rfl) cw_L_17 ⟨w_288, w_289⟩ rfl (by decide) rfl ⟨by decide, by decide⟩ rfl (Nat.le_of_ble_eq_true rfl) ⟨by decide, by decide⟩ (fun _ => ?_) (fun q => absurd (Nat.eq_of_beq_eq_true z_3) q)
    refine go_goto (tgt := 14) (d_L_top 5 rfl) (by decide) ?_
    refine go_iconst (x := (0 : Int32)) (d_L_top 14 rfl) (by decide) ?_
    exact go_iret (d_L_top 15 rfl) rfl rfl (Option.some.inj h) (by decide) (by decide)
  rcases br_some h with ⟨z_5, h⟩ | ⟨z_5, h⟩
  · refine go_cV (As := [.int x1]) (rest := []) (st2 := []) (c2 := 2) (s2 := 12) rfl rfl rfl rfl (Ca_S_top hl o_2)  (d_L_top 2 rfl) cw_L_17 ⟨w_288, w_289⟩ rfl (by decide) rfl ⟨by decide, by decide⟩ rfl (Nat.le_of_ble_eq_true rfl) ⟨by decide, by decide⟩ (fun q => absurd q (Nat.ne_of_beq_eq_false z_3)) (fun _ => ?_)
    rw [Nat.eq_of_beq_eq_true z_5]
    refine gx_catch [] ⟨0, 5, 8, 13⟩ [⟨0, 5, 11, 21⟩] rfl (fun y hy => nomatch hy) rfl (by decide) w_182 w_193 (fun q_4 => ?_)
    refine go_astore_n (lv' := [(0, .ref (ad (0))), (1, .int x1), (2, .ref q_4)]) (d_L_top 8 rfl) rfl (by decide) rfl ?_
    refine go_iconst (x := (1 : Int32)) (d_L_top 9 rfl) (by decide) ?_
    exact go_iret (d_L_top 10 rfl) rfl rfl (Option.some.inj h) (by decide) (by decide)
  rcases br_some h with ⟨z_7, h⟩ | ⟨z_7, h⟩
  · refine go_cV (As := [.int x1]) (rest := []) (st2 := []) (c2 := 2) (s2 := 12) rfl rfl rfl rfl (Ca_S_top hl o_2)  (d_L_top 2 rfl) cw_L_17 ⟨w_288, w_289⟩ rfl (by decide) rfl ⟨by decide, by decide⟩ rfl (Nat.le_of_ble_eq_true rfl) ⟨by decide, by decide⟩ (fun q => absurd q (Nat.ne_of_beq_eq_false z_3)) (fun _ => ?_)
    rw [Nat.eq_of_beq_eq_true z_7]
    refine gx_catch [⟨0, 5, 8, 13⟩] ⟨0, 5, 11, 21⟩ [] rfl (fun y hy => by
      rcases (by simpa using hy : y = (⟨0, 5, 8, 13⟩ : ExceptionTableEntry)) with rfl
      · exact Or.inr ⟨by decide, _, w_182, by decide +kernel⟩) rfl (by decide) w_286 w_297 (fun q_6 => ?_)
    refine go_astore_n (lv' := [(0, .ref (ad (0))), (1, .int x1), (2, .ref q_6)]) (d_L_top 11 rfl) rfl (by decide) rfl ?_
    refine go_iconst (x := (2 : Int32)) (d_L_top 12 rfl) (by decide) ?_
    exact go_iret (d_L_top 13 rfl) rfl rfl (Option.some.inj h) (by decide) (by decide)
  cases h
abbrev M_L_trigger : go_M := (c_L_trigger, 7, (some .int), RL, tableOf [(0, 14, 17, 13), (0, 14, 21, 15), (0, 14, 25, 27)], rmD 2 4)
def f_L_trigger (x1 : Int32) (x2 : Int32) (x3 : Int32) (x4 : Int32) (v : go_V) : Option go_R := bd (f_S_trigger x1 x2 x3 x4 v) (fun r_1 => br (Nat.beq r_1.1 0) (gd (go_in (0 : Int32) 1) (ln (u2 r_1.2.2.2 119 (0 : Int32).toNatClampNeg r_1.2.1) (fun v_5 => some (0, (0 : Int32), 0, v_5)))) (br (Nat.beq r_1.1 1) (some (0, (1 : Int32), 0, r_1.2.2.2)) (br (Nat.beq r_1.1 2) (some (0, (2 : Int32), 0, r_1.2.2.2)) (br (Nat.beq r_1.1 4) (some (0, (3 : Int32), 0, r_1.2.2.2)) (none)))))
set_option maxHeartbeats 4000000 in
set_option maxRecDepth 100000 in
theorem Ca_L_trigger {l : Launch} {G : go_G} {ad : Nat → Nat} (hl : l.stackTraces = false) {r : go_R} {x1 : Int32} {x2 : Int32} {x3 : Int32} {x4 : Int32} {v : go_V} (h : f_L_trigger x1 x2 x3 x4 v = some r) : Ca l G y_L_trigger (.codeWith y_L_trigger c_L_trigger 7 (some .int) [(0, 14, 17, 13), (0, 14, 21, 15), (0, 14, 25, 27)] :: go_TT) (rmD 2 4) 1 ad [.ref (ad (0)), .int x1, .int x2, .int x3, .int x4, .ref (ad (119))] v r := by
  unfold f_L_trigger at h
  refine go_bodyX (own := RL) (by decide) rfl (Nat.le_of_ble_eq_true rfl) ?_
  show Go l G M_L_trigger go_Ex0 (go_E G ad 1 r 4 24) ad v [(0, .ref (ad (0))), (1, .int x1), (2, .int x2), (3, .int x3), (4, .int x4), (5, .ref (ad (119)))] 0 [] 0 0
  refine go_aload (d_L_trigger 0 rfl) rfl ?_
  refine go_iconst (x := (0 : Int32)) (d_L_trigger 2 rfl) (by decide) ?_
  refine go_aload_n (d_L_trigger 3 rfl) rfl rfl ?_
  refine go_iload_n (d_L_trigger 4 rfl) rfl rfl ?_
  refine go_iload_n (d_L_trigger 5 rfl) rfl rfl ?_
  refine go_iload_n (d_L_trigger 6 rfl) rfl rfl ?_
  refine go_iload (d_L_trigger 7 rfl) rfl ?_
  obtain ⟨r_1, o_2, h⟩ := bd_some h
  rcases br_some h with ⟨z_3, h⟩ | ⟨z_3, h⟩
  · refine go_cV (As := [.int x1, .int x2, .int x3, .int x4]) (rest := [.int ((0 : Int32)), .ref (ad (119))]) (st2 := [.int (r_1.2.1), .int ((0 : Int32)), .ref (ad (119))]) (c2 := 4) (s2 := 24) rfl rfl rfl rfl (Ca_S_trigger hl o_2)  (d_L_trigger 9 rfl) cw_L_23 ⟨w_316, w_317⟩ rfl (by decide) rfl ⟨by decide, by decide⟩ rfl (Nat.le_of_ble_eq_true rfl) ⟨by decide, by decide⟩ (fun _ => ?_) (fun q => absurd (Nat.eq_of_beq_eq_true z_3) q)
    refine go_i2l (d_L_trigger 12 rfl) ?_
    obtain ⟨g_4, h⟩ := gd_some h
    obtain ⟨v_5, ev_5, h⟩ := ln_some h
    refine go_last (y := r_1.2.1) (d_L_trigger 13 rfl) rfl g_4 ?_
    rw [← ev_5]
    refine go_goto (tgt := 29) (d_L_trigger 14 rfl) (by decide) ?_
    refine go_iconst (x := (0 : Int32)) (d_L_trigger 29 rfl) (by decide) ?_
    exact go_iret (d_L_trigger 30 rfl) rfl rfl (Option.some.inj h) (by decide) (by decide)
  rcases br_some h with ⟨z_7, h⟩ | ⟨z_7, h⟩
  · refine go_cV (As := [.int x1, .int x2, .int x3, .int x4]) (rest := [.int ((0 : Int32)), .ref (ad (119))]) (st2 := [.int (r_1.2.1), .int ((0 : Int32)), .ref (ad (119))]) (c2 := 4) (s2 := 24) rfl rfl rfl rfl (Ca_S_trigger hl o_2)  (d_L_trigger 9 rfl) cw_L_23 ⟨w_316, w_317⟩ rfl (by decide) rfl ⟨by decide, by decide⟩ rfl (Nat.le_of_ble_eq_true rfl) ⟨by decide, by decide⟩ (fun q => absurd q (Nat.ne_of_beq_eq_false z_3)) (fun _ => ?_)
    rw [Nat.eq_of_beq_eq_true z_7]
    refine gx_catch [] ⟨0, 14, 17, 13⟩ [⟨0, 14, 21, 15⟩, ⟨0, 14, 25, 27⟩] rfl (fun y hy => nomatch hy) rfl (by decide) w_182 w_193 (fun q_6 => ?_)
    refine go_astore (lv' := [(0, .ref (ad (0))), (1, .int x1), (2, .int x2), (3, .int x3), (4, .int x4), (5, .ref (ad (119))), (6, .ref q_6)]) (d_L_trigger 17 rfl) (by decide) rfl ?_
    refine go_iconst (x := (1 : Int32)) (d_L_trigger 19 rfl) (by decide) ?_
    exact go_iret (d_L_trigger 20 rfl) rfl rfl (Option.some.inj h) (by decide) (by decide)
  rcases br_some h with ⟨z_9, h⟩ | ⟨z_9, h⟩
  · refine go_cV (As := [.int x1, .int x2, .int x3, .int x4]) (rest := [.int ((0 : Int32)), .ref (ad (119))]) (st2 := [.int (r_1.2.1), .int ((0 : Int32)), .ref (ad (119))]) (c2 := 4) (s2 := 24) rfl rfl rfl rfl (Ca_S_trigger hl o_2)  (d_L_trigger 9 rfl) cw_L_23 ⟨w_316, w_317⟩ rfl (by decide) rfl ⟨by decide, by decide⟩ rfl (Nat.le_of_ble_eq_true rfl) ⟨by decide, by decide⟩ (fun q => absurd q (Nat.ne_of_beq_eq_false z_3)) (fun _ => ?_)
    rw [Nat.eq_of_beq_eq_true z_9]
    refine gx_catch [⟨0, 14, 17, 13⟩] ⟨0, 14, 21, 15⟩ [⟨0, 14, 25, 27⟩] rfl (fun y hy => by
      rcases (by simpa using hy : y = (⟨0, 14, 17, 13⟩ : ExceptionTableEntry)) with rfl
      · exact Or.inr ⟨by decide, _, w_182, by decide +kernel⟩) rfl (by decide) w_183 w_269 (fun q_8 => ?_)
    refine go_astore (lv' := [(0, .ref (ad (0))), (1, .int x1), (2, .int x2), (3, .int x3), (4, .int x4), (5, .ref (ad (119))), (6, .ref q_8)]) (d_L_trigger 21 rfl) (by decide) rfl ?_
    refine go_iconst (x := (2 : Int32)) (d_L_trigger 23 rfl) (by decide) ?_
    exact go_iret (d_L_trigger 24 rfl) rfl rfl (Option.some.inj h) (by decide) (by decide)
  rcases br_some h with ⟨z_11, h⟩ | ⟨z_11, h⟩
  · refine go_cV (As := [.int x1, .int x2, .int x3, .int x4]) (rest := [.int ((0 : Int32)), .ref (ad (119))]) (st2 := [.int (r_1.2.1), .int ((0 : Int32)), .ref (ad (119))]) (c2 := 4) (s2 := 24) rfl rfl rfl rfl (Ca_S_trigger hl o_2)  (d_L_trigger 9 rfl) cw_L_23 ⟨w_316, w_317⟩ rfl (by decide) rfl ⟨by decide, by decide⟩ rfl (Nat.le_of_ble_eq_true rfl) ⟨by decide, by decide⟩ (fun q => absurd q (Nat.ne_of_beq_eq_false z_3)) (fun _ => ?_)
    rw [Nat.eq_of_beq_eq_true z_11]
    refine gx_catch [⟨0, 14, 17, 13⟩, ⟨0, 14, 21, 15⟩] ⟨0, 14, 25, 27⟩ [] rfl (fun y hy => by
      rcases (by simpa using hy : y = (⟨0, 14, 17, 13⟩ : ExceptionTableEntry) ∨ y = (⟨0, 14, 21, 15⟩ : ExceptionTableEntry)) with rfl | rfl
      · exact Or.inr ⟨by decide, _, w_182, by decide +kernel⟩
      · exact Or.inr ⟨by decide, _, w_183, by decide +kernel⟩) rfl (by decide) w_314 w_327 (fun q_10 => ?_)
    refine go_astore (lv' := [(0, .ref (ad (0))), (1, .int x1), (2, .int x2), (3, .int x3), (4, .int x4), (5, .ref (ad (119))), (6, .ref q_10)]) (d_L_trigger 25 rfl) (by decide) rfl ?_
    refine go_iconst (x := (3 : Int32)) (d_L_trigger 27 rfl) (by decide) ?_
    exact go_iret (d_L_trigger 28 rfl) rfl rfl (Option.some.inj h) (by decide) (by decide)
  cases h
abbrev M_L_begin : go_M := (c_L_begin, 3, (some .int), RL, tableOf [(0, 8, 11, 27)], rmD 1 1)
def f_L_begin  (v : go_V) : Option go_R := bd (f_S_begin v) (fun r_1 => br (Nat.beq r_1.1 0) (gd (go_in (0 : Int32) 1) (ln (u2 r_1.2.2.2 119 (0 : Int32).toNatClampNeg r_1.2.1) (fun v_5 => some (0, (0 : Int32), 0, v_5)))) (br (Nat.beq r_1.1 4) (some (0, (1 : Int32), 0, r_1.2.2.2)) (none)))
set_option maxHeartbeats 4000000 in
set_option maxRecDepth 100000 in
theorem Ca_L_begin {l : Launch} {G : go_G} {ad : Nat → Nat} (hl : l.stackTraces = false) {r : go_R}  {v : go_V} (h : f_L_begin  v = some r) : Ca l G y_L_begin (.codeWith y_L_begin c_L_begin 3 (some .int) [(0, 8, 11, 27)] :: go_TT) (rmD 1 1) 1 ad [.ref (ad (0)), .ref (ad (119))] v r := by
  unfold f_L_begin at h
  refine go_bodyX (own := RL) (by decide) rfl (Nat.le_of_ble_eq_true rfl) ?_
  show Go l G M_L_begin go_Ex0 (go_E G ad 1 r 1 6) ad v [(0, .ref (ad (0))), (1, .ref (ad (119)))] 0 [] 0 0
  refine go_aload_n (d_L_begin 0 rfl) rfl rfl ?_
  refine go_iconst (x := (0 : Int32)) (d_L_begin 1 rfl) (by decide) ?_
  refine go_aload_n (d_L_begin 2 rfl) rfl rfl ?_
  obtain ⟨r_1, o_2, h⟩ := bd_some h
  rcases br_some h with ⟨z_3, h⟩ | ⟨z_3, h⟩
  · refine go_cV (As := []) (rest := [.int ((0 : Int32)), .ref (ad (119))]) (st2 := [.int (r_1.2.1), .int ((0 : Int32)), .ref (ad (119))]) (c2 := 1) (s2 := 6) rfl rfl rfl rfl (Ca_S_begin hl o_2)  (d_L_begin 3 rfl) cw_L_29 ⟨w_353, w_354⟩ rfl (by decide) rfl ⟨by decide, by decide⟩ rfl (Nat.le_of_ble_eq_true rfl) ⟨by decide, by decide⟩ (fun _ => ?_) (fun q => absurd (Nat.eq_of_beq_eq_true z_3) q)
    refine go_i2l (d_L_begin 6 rfl) ?_
    obtain ⟨g_4, h⟩ := gd_some h
    obtain ⟨v_5, ev_5, h⟩ := ln_some h
    refine go_last (y := r_1.2.1) (d_L_begin 7 rfl) rfl g_4 ?_
    rw [← ev_5]
    refine go_goto (tgt := 14) (d_L_begin 8 rfl) (by decide) ?_
    refine go_iconst (x := (0 : Int32)) (d_L_begin 14 rfl) (by decide) ?_
    exact go_iret (d_L_begin 15 rfl) rfl rfl (Option.some.inj h) (by decide) (by decide)
  rcases br_some h with ⟨z_7, h⟩ | ⟨z_7, h⟩
  · refine go_cV (As := []) (rest := [.int ((0 : Int32)), .ref (ad (119))]) (st2 := [.int (r_1.2.1), .int ((0 : Int32)), .ref (ad (119))]) (c2 := 1) (s2 := 6) rfl rfl rfl rfl (Ca_S_begin hl o_2)  (d_L_begin 3 rfl) cw_L_29 ⟨w_353, w_354⟩ rfl (by decide) rfl ⟨by decide, by decide⟩ rfl (Nat.le_of_ble_eq_true rfl) ⟨by decide, by decide⟩ (fun q => absurd q (Nat.ne_of_beq_eq_false z_3)) (fun _ => ?_)
    rw [Nat.eq_of_beq_eq_true z_7]
    refine gx_catch [] ⟨0, 8, 11, 27⟩ [] rfl (fun y hy => nomatch hy) rfl (by decide) w_314 w_327 (fun q_6 => ?_)
    refine go_astore_n (lv' := [(0, .ref (ad (0))), (1, .ref (ad (119))), (2, .ref q_6)]) (d_L_begin 11 rfl) rfl (by decide) rfl ?_
    refine go_iconst (x := (1 : Int32)) (d_L_begin 12 rfl) (by decide) ?_
    exact go_iret (d_L_begin 13 rfl) rfl rfl (Option.some.inj h) (by decide) (by decide)
  cases h
abbrev M_L_close : go_M := (c_L_close, 3, (some .int), RL, tableOf [(0, 5, 8, 13), (0, 5, 11, 21)], rmD 2 2)
def f_L_close (x1 : Int32) (v : go_V) : Option go_R := bd (f_S_close x1 v) (fun r_1 => br (Nat.beq r_1.1 0) (some (0, (0 : Int32), 0, r_1.2.2.2)) (br (Nat.beq r_1.1 1) (some (0, (1 : Int32), 0, r_1.2.2.2)) (br (Nat.beq r_1.1 3) (some (0, (2 : Int32), 0, r_1.2.2.2)) (none))))
set_option maxHeartbeats 4000000 in
set_option maxRecDepth 100000 in
theorem Ca_L_close {l : Launch} {G : go_G} {ad : Nat → Nat} (hl : l.stackTraces = false) {r : go_R} {x1 : Int32} {v : go_V} (h : f_L_close x1 v = some r) : Ca l G y_L_close (.codeWith y_L_close c_L_close 3 (some .int) [(0, 5, 8, 13), (0, 5, 11, 21)] :: go_TT) (rmD 2 2) 1 ad [.ref (ad (0)), .int x1] v r := by
  unfold f_L_close at h
  refine go_bodyX (own := RL) (by decide) rfl (Nat.le_of_ble_eq_true rfl) ?_
  show Go l G M_L_close go_Ex0 (go_E G ad 1 r 2 12) ad v [(0, .ref (ad (0))), (1, .int x1)] 0 [] 0 0
  refine go_aload_n (d_L_close 0 rfl) rfl rfl ?_
  refine go_iload_n (d_L_close 1 rfl) rfl rfl ?_
  obtain ⟨r_1, o_2, h⟩ := bd_some h
  rcases br_some h with ⟨z_3, h⟩ | ⟨z_3, h⟩
  · refine go_cV (As := [.int x1]) (rest := []) (st2 := []) (c2 := 2) (s2 := 12) rfl rfl rfl rfl (Ca_S_close hl o_2)  (d_L_close 2 rfl) cw_L_33 ⟨w_361, w_362⟩ rfl (by decide) rfl ⟨by decide, by decide⟩ rfl (Nat.le_of_ble_eq_true rfl) ⟨by decide, by decide⟩ (fun _ => ?_) (fun q => absurd (Nat.eq_of_beq_eq_true z_3) q)
    refine go_goto (tgt := 14) (d_L_close 5 rfl) (by decide) ?_
    refine go_iconst (x := (0 : Int32)) (d_L_close 14 rfl) (by decide) ?_
    exact go_iret (d_L_close 15 rfl) rfl rfl (Option.some.inj h) (by decide) (by decide)
  rcases br_some h with ⟨z_5, h⟩ | ⟨z_5, h⟩
  · refine go_cV (As := [.int x1]) (rest := []) (st2 := []) (c2 := 2) (s2 := 12) rfl rfl rfl rfl (Ca_S_close hl o_2)  (d_L_close 2 rfl) cw_L_33 ⟨w_361, w_362⟩ rfl (by decide) rfl ⟨by decide, by decide⟩ rfl (Nat.le_of_ble_eq_true rfl) ⟨by decide, by decide⟩ (fun q => absurd q (Nat.ne_of_beq_eq_false z_3)) (fun _ => ?_)
    rw [Nat.eq_of_beq_eq_true z_5]
    refine gx_catch [] ⟨0, 5, 8, 13⟩ [⟨0, 5, 11, 21⟩] rfl (fun y hy => nomatch hy) rfl (by decide) w_182 w_193 (fun q_4 => ?_)
    refine go_astore_n (lv' := [(0, .ref (ad (0))), (1, .int x1), (2, .ref q_4)]) (d_L_close 8 rfl) rfl (by decide) rfl ?_
    refine go_iconst (x := (1 : Int32)) (d_L_close 9 rfl) (by decide) ?_
    exact go_iret (d_L_close 10 rfl) rfl rfl (Option.some.inj h) (by decide) (by decide)
  rcases br_some h with ⟨z_7, h⟩ | ⟨z_7, h⟩
  · refine go_cV (As := [.int x1]) (rest := []) (st2 := []) (c2 := 2) (s2 := 12) rfl rfl rfl rfl (Ca_S_close hl o_2)  (d_L_close 2 rfl) cw_L_33 ⟨w_361, w_362⟩ rfl (by decide) rfl ⟨by decide, by decide⟩ rfl (Nat.le_of_ble_eq_true rfl) ⟨by decide, by decide⟩ (fun q => absurd q (Nat.ne_of_beq_eq_false z_3)) (fun _ => ?_)
    rw [Nat.eq_of_beq_eq_true z_7]
    refine gx_catch [⟨0, 5, 8, 13⟩] ⟨0, 5, 11, 21⟩ [] rfl (fun y hy => by
      rcases (by simpa using hy : y = (⟨0, 5, 8, 13⟩ : ExceptionTableEntry)) with rfl
      · exact Or.inr ⟨by decide, _, w_182, by decide +kernel⟩) rfl (by decide) w_286 w_297 (fun q_6 => ?_)
    refine go_astore_n (lv' := [(0, .ref (ad (0))), (1, .int x1), (2, .ref q_6)]) (d_L_close 11 rfl) rfl (by decide) rfl ?_
    refine go_iconst (x := (2 : Int32)) (d_L_close 12 rfl) (by decide) ?_
    exact go_iret (d_L_close 13 rfl) rfl rfl (Option.some.inj h) (by decide) (by decide)
  cases h
abbrev M_L_tick : go_M := (c_L_tick, 4, (some .int), RL, tableOf [(0, 9, 12, 15)], rmD 4 2)
def f_L_tick (x1 : Int32) (v : go_V) : Option go_R := bd (f_S_tick x1 v) (fun r_1 => br (Nat.beq r_1.1 0) (gd (go_in (0 : Int32) 1) (ln (u2 r_1.2.2.2 119 (0 : Int32).toNatClampNeg r_1.2.1) (fun v_5 => some (0, (0 : Int32), 0, v_5)))) (br (Nat.beq r_1.1 2) (some (0, (1 : Int32), 0, r_1.2.2.2)) (none)))
set_option maxHeartbeats 4000000 in
set_option maxRecDepth 100000 in
theorem Ca_L_tick {l : Launch} {G : go_G} {ad : Nat → Nat} (hl : l.stackTraces = false) {r : go_R} {x1 : Int32} {v : go_V} (h : f_L_tick x1 v = some r) : Ca l G y_L_tick (.codeWith y_L_tick c_L_tick 4 (some .int) [(0, 9, 12, 15)] :: go_TT) (rmD 4 2) 1 ad [.ref (ad (0)), .int x1, .ref (ad (119))] v r := by
  unfold f_L_tick at h
  refine go_bodyX (own := RL) (by decide) rfl (Nat.le_of_ble_eq_true rfl) ?_
  show Go l G M_L_tick go_Ex0 (go_E G ad 1 r 2 12) ad v [(0, .ref (ad (0))), (1, .int x1), (2, .ref (ad (119)))] 0 [] 0 0
  refine go_aload_n (d_L_tick 0 rfl) rfl rfl ?_
  refine go_iconst (x := (0 : Int32)) (d_L_tick 1 rfl) (by decide) ?_
  refine go_aload_n (d_L_tick 2 rfl) rfl rfl ?_
  refine go_iload_n (d_L_tick 3 rfl) rfl rfl ?_
  obtain ⟨r_1, o_2, h⟩ := bd_some h
  rcases br_some h with ⟨z_3, h⟩ | ⟨z_3, h⟩
  · refine go_cV (As := [.int x1]) (rest := [.int ((0 : Int32)), .ref (ad (119))]) (st2 := [.int (r_1.2.1), .int ((0 : Int32)), .ref (ad (119))]) (c2 := 2) (s2 := 12) rfl rfl rfl rfl (Ca_S_tick hl o_2)  (d_L_tick 4 rfl) cw_L_36 ⟨w_381, w_382⟩ rfl (by decide) rfl ⟨by decide, by decide⟩ rfl (Nat.le_of_ble_eq_true rfl) ⟨by decide, by decide⟩ (fun _ => ?_) (fun q => absurd (Nat.eq_of_beq_eq_true z_3) q)
    refine go_i2l (d_L_tick 7 rfl) ?_
    obtain ⟨g_4, h⟩ := gd_some h
    obtain ⟨v_5, ev_5, h⟩ := ln_some h
    refine go_last (y := r_1.2.1) (d_L_tick 8 rfl) rfl g_4 ?_
    rw [← ev_5]
    refine go_goto (tgt := 15) (d_L_tick 9 rfl) (by decide) ?_
    refine go_iconst (x := (0 : Int32)) (d_L_tick 15 rfl) (by decide) ?_
    exact go_iret (d_L_tick 16 rfl) rfl rfl (Option.some.inj h) (by decide) (by decide)
  rcases br_some h with ⟨z_7, h⟩ | ⟨z_7, h⟩
  · refine go_cV (As := [.int x1]) (rest := [.int ((0 : Int32)), .ref (ad (119))]) (st2 := [.int (r_1.2.1), .int ((0 : Int32)), .ref (ad (119))]) (c2 := 2) (s2 := 12) rfl rfl rfl rfl (Ca_S_tick hl o_2)  (d_L_tick 4 rfl) cw_L_36 ⟨w_381, w_382⟩ rfl (by decide) rfl ⟨by decide, by decide⟩ rfl (Nat.le_of_ble_eq_true rfl) ⟨by decide, by decide⟩ (fun q => absurd q (Nat.ne_of_beq_eq_false z_3)) (fun _ => ?_)
    rw [Nat.eq_of_beq_eq_true z_7]
    refine gx_catch [] ⟨0, 9, 12, 15⟩ [] rfl (fun y hy => nomatch hy) rfl (by decide) w_183 w_269 (fun q_6 => ?_)
    refine go_astore_n (lv' := [(0, .ref (ad (0))), (1, .int x1), (2, .ref (ad (119))), (3, .ref q_6)]) (d_L_tick 12 rfl) rfl (by decide) rfl ?_
    refine go_iconst (x := (1 : Int32)) (d_L_tick 13 rfl) (by decide) ?_
    exact go_iret (d_L_tick 14 rfl) rfl rfl (Option.some.inj h) (by decide) (by decide)
  cases h
abbrev M_L_word : go_M := (c_L_word, 5, (some .int), RL, tableOf [(0, 10, 13, 13), (0, 10, 17, 15), (0, 10, 21, 21)], rmD 4 3)
def f_L_word (x1 : Int32) (x2 : Int32) (v : go_V) : Option go_R := bd (f_S_word x1 x2 v) (fun r_1 => br (Nat.beq r_1.1 0) (gd (go_in (0 : Int32) 1) (ln (u2 r_1.2.2.2 119 (0 : Int32).toNatClampNeg r_1.2.1) (fun v_5 => some (0, (0 : Int32), 0, v_5)))) (br (Nat.beq r_1.1 1) (some (0, (1 : Int32), 0, r_1.2.2.2)) (br (Nat.beq r_1.1 2) (some (0, (2 : Int32), 0, r_1.2.2.2)) (br (Nat.beq r_1.1 3) (some (0, (3 : Int32), 0, r_1.2.2.2)) (none)))))
set_option maxHeartbeats 4000000 in
set_option maxRecDepth 100000 in
theorem Ca_L_word {l : Launch} {G : go_G} {ad : Nat → Nat} (hl : l.stackTraces = false) {r : go_R} {x1 : Int32} {x2 : Int32} {v : go_V} (h : f_L_word x1 x2 v = some r) : Ca l G y_L_word (.codeWith y_L_word c_L_word 5 (some .int) [(0, 10, 13, 13), (0, 10, 17, 15), (0, 10, 21, 21)] :: go_TT) (rmD 4 3) 1 ad [.ref (ad (0)), .int x1, .int x2, .ref (ad (119))] v r := by
  unfold f_L_word at h
  refine go_bodyX (own := RL) (by decide) rfl (Nat.le_of_ble_eq_true rfl) ?_
  show Go l G M_L_word go_Ex0 (go_E G ad 1 r 3 18) ad v [(0, .ref (ad (0))), (1, .int x1), (2, .int x2), (3, .ref (ad (119)))] 0 [] 0 0
  refine go_aload_n (d_L_word 0 rfl) rfl rfl ?_
  refine go_iconst (x := (0 : Int32)) (d_L_word 1 rfl) (by decide) ?_
  refine go_aload_n (d_L_word 2 rfl) rfl rfl ?_
  refine go_iload_n (d_L_word 3 rfl) rfl rfl ?_
  refine go_iload_n (d_L_word 4 rfl) rfl rfl ?_
  obtain ⟨r_1, o_2, h⟩ := bd_some h
  rcases br_some h with ⟨z_3, h⟩ | ⟨z_3, h⟩
  · refine go_cV (As := [.int x1, .int x2]) (rest := [.int ((0 : Int32)), .ref (ad (119))]) (st2 := [.int (r_1.2.1), .int ((0 : Int32)), .ref (ad (119))]) (c2 := 3) (s2 := 18) rfl rfl rfl rfl (Ca_S_word hl o_2)  (d_L_word 5 rfl) cw_L_40 ⟨w_404, w_405⟩ rfl (by decide) rfl ⟨by decide, by decide⟩ rfl (Nat.le_of_ble_eq_true rfl) ⟨by decide, by decide⟩ (fun _ => ?_) (fun q => absurd (Nat.eq_of_beq_eq_true z_3) q)
    refine go_i2l (d_L_word 8 rfl) ?_
    obtain ⟨g_4, h⟩ := gd_some h
    obtain ⟨v_5, ev_5, h⟩ := ln_some h
    refine go_last (y := r_1.2.1) (d_L_word 9 rfl) rfl g_4 ?_
    rw [← ev_5]
    refine go_goto (tgt := 25) (d_L_word 10 rfl) (by decide) ?_
    refine go_iconst (x := (0 : Int32)) (d_L_word 25 rfl) (by decide) ?_
    exact go_iret (d_L_word 26 rfl) rfl rfl (Option.some.inj h) (by decide) (by decide)
  rcases br_some h with ⟨z_7, h⟩ | ⟨z_7, h⟩
  · refine go_cV (As := [.int x1, .int x2]) (rest := [.int ((0 : Int32)), .ref (ad (119))]) (st2 := [.int (r_1.2.1), .int ((0 : Int32)), .ref (ad (119))]) (c2 := 3) (s2 := 18) rfl rfl rfl rfl (Ca_S_word hl o_2)  (d_L_word 5 rfl) cw_L_40 ⟨w_404, w_405⟩ rfl (by decide) rfl ⟨by decide, by decide⟩ rfl (Nat.le_of_ble_eq_true rfl) ⟨by decide, by decide⟩ (fun q => absurd q (Nat.ne_of_beq_eq_false z_3)) (fun _ => ?_)
    rw [Nat.eq_of_beq_eq_true z_7]
    refine gx_catch [] ⟨0, 10, 13, 13⟩ [⟨0, 10, 17, 15⟩, ⟨0, 10, 21, 21⟩] rfl (fun y hy => nomatch hy) rfl (by decide) w_182 w_193 (fun q_6 => ?_)
    refine go_astore (lv' := [(0, .ref (ad (0))), (1, .int x1), (2, .int x2), (3, .ref (ad (119))), (4, .ref q_6)]) (d_L_word 13 rfl) (by decide) rfl ?_
    refine go_iconst (x := (1 : Int32)) (d_L_word 15 rfl) (by decide) ?_
    exact go_iret (d_L_word 16 rfl) rfl rfl (Option.some.inj h) (by decide) (by decide)
  rcases br_some h with ⟨z_9, h⟩ | ⟨z_9, h⟩
  · refine go_cV (As := [.int x1, .int x2]) (rest := [.int ((0 : Int32)), .ref (ad (119))]) (st2 := [.int (r_1.2.1), .int ((0 : Int32)), .ref (ad (119))]) (c2 := 3) (s2 := 18) rfl rfl rfl rfl (Ca_S_word hl o_2)  (d_L_word 5 rfl) cw_L_40 ⟨w_404, w_405⟩ rfl (by decide) rfl ⟨by decide, by decide⟩ rfl (Nat.le_of_ble_eq_true rfl) ⟨by decide, by decide⟩ (fun q => absurd q (Nat.ne_of_beq_eq_false z_3)) (fun _ => ?_)
    rw [Nat.eq_of_beq_eq_true z_9]
    refine gx_catch [⟨0, 10, 13, 13⟩] ⟨0, 10, 17, 15⟩ [⟨0, 10, 21, 21⟩] rfl (fun y hy => by
      rcases (by simpa using hy : y = (⟨0, 10, 13, 13⟩ : ExceptionTableEntry)) with rfl
      · exact Or.inr ⟨by decide, _, w_182, by decide +kernel⟩) rfl (by decide) w_183 w_269 (fun q_8 => ?_)
    refine go_astore (lv' := [(0, .ref (ad (0))), (1, .int x1), (2, .int x2), (3, .ref (ad (119))), (4, .ref q_8)]) (d_L_word 17 rfl) (by decide) rfl ?_
    refine go_iconst (x := (2 : Int32)) (d_L_word 19 rfl) (by decide) ?_
    exact go_iret (d_L_word 20 rfl) rfl rfl (Option.some.inj h) (by decide) (by decide)
  rcases br_some h with ⟨z_11, h⟩ | ⟨z_11, h⟩
  · refine go_cV (As := [.int x1, .int x2]) (rest := [.int ((0 : Int32)), .ref (ad (119))]) (st2 := [.int (r_1.2.1), .int ((0 : Int32)), .ref (ad (119))]) (c2 := 3) (s2 := 18) rfl rfl rfl rfl (Ca_S_word hl o_2)  (d_L_word 5 rfl) cw_L_40 ⟨w_404, w_405⟩ rfl (by decide) rfl ⟨by decide, by decide⟩ rfl (Nat.le_of_ble_eq_true rfl) ⟨by decide, by decide⟩ (fun q => absurd q (Nat.ne_of_beq_eq_false z_3)) (fun _ => ?_)
    rw [Nat.eq_of_beq_eq_true z_11]
    refine gx_catch [⟨0, 10, 13, 13⟩, ⟨0, 10, 17, 15⟩] ⟨0, 10, 21, 21⟩ [] rfl (fun y hy => by
      rcases (by simpa using hy : y = (⟨0, 10, 13, 13⟩ : ExceptionTableEntry) ∨ y = (⟨0, 10, 17, 15⟩ : ExceptionTableEntry)) with rfl | rfl
      · exact Or.inr ⟨by decide, _, w_182, by decide +kernel⟩
      · exact Or.inr ⟨by decide, _, w_183, by decide +kernel⟩) rfl (by decide) w_286 w_297 (fun q_10 => ?_)
    refine go_astore (lv' := [(0, .ref (ad (0))), (1, .int x1), (2, .int x2), (3, .ref (ad (119))), (4, .ref q_10)]) (d_L_word 21 rfl) (by decide) rfl ?_
    refine go_iconst (x := (3 : Int32)) (d_L_word 23 rfl) (by decide) ?_
    exact go_iret (d_L_word 24 rfl) rfl rfl (Option.some.inj h) (by decide) (by decide)
  cases h
abbrev M_L_hurt : go_M := (c_L_hurt, 5, (some .int), RL, tableOf [(0, 10, 13, 13), (0, 10, 17, 15), (0, 10, 21, 21)], rmD 4 3)
def f_L_hurt (x1 : Int32) (x2 : Int32) (v : go_V) : Option go_R := bd (f_S_hurt x1 x2 v) (fun r_1 => br (Nat.beq r_1.1 0) (gd (go_in (0 : Int32) 1) (ln (u2 r_1.2.2.2 119 (0 : Int32).toNatClampNeg r_1.2.1) (fun v_5 => some (0, (0 : Int32), 0, v_5)))) (br (Nat.beq r_1.1 1) (some (0, (1 : Int32), 0, r_1.2.2.2)) (br (Nat.beq r_1.1 2) (some (0, (2 : Int32), 0, r_1.2.2.2)) (br (Nat.beq r_1.1 3) (some (0, (3 : Int32), 0, r_1.2.2.2)) (none)))))
set_option maxHeartbeats 4000000 in
set_option maxRecDepth 100000 in
theorem Ca_L_hurt {l : Launch} {G : go_G} {ad : Nat → Nat} (hl : l.stackTraces = false) {r : go_R} {x1 : Int32} {x2 : Int32} {v : go_V} (h : f_L_hurt x1 x2 v = some r) : Ca l G y_L_hurt (.codeWith y_L_hurt c_L_hurt 5 (some .int) [(0, 10, 13, 13), (0, 10, 17, 15), (0, 10, 21, 21)] :: go_TT) (rmD 4 3) 1 ad [.ref (ad (0)), .int x1, .int x2, .ref (ad (119))] v r := by
  unfold f_L_hurt at h
  refine go_bodyX (own := RL) (by decide) rfl (Nat.le_of_ble_eq_true rfl) ?_
  show Go l G M_L_hurt go_Ex0 (go_E G ad 1 r 3 18) ad v [(0, .ref (ad (0))), (1, .int x1), (2, .int x2), (3, .ref (ad (119)))] 0 [] 0 0
  refine go_aload_n (d_L_hurt 0 rfl) rfl rfl ?_
  refine go_iconst (x := (0 : Int32)) (d_L_hurt 1 rfl) (by decide) ?_
  refine go_aload_n (d_L_hurt 2 rfl) rfl rfl ?_
  refine go_iload_n (d_L_hurt 3 rfl) rfl rfl ?_
  refine go_iload_n (d_L_hurt 4 rfl) rfl rfl ?_
  obtain ⟨r_1, o_2, h⟩ := bd_some h
  rcases br_some h with ⟨z_3, h⟩ | ⟨z_3, h⟩
  · refine go_cV (As := [.int x1, .int x2]) (rest := [.int ((0 : Int32)), .ref (ad (119))]) (st2 := [.int (r_1.2.1), .int ((0 : Int32)), .ref (ad (119))]) (c2 := 3) (s2 := 18) rfl rfl rfl rfl (Ca_S_hurt hl o_2)  (d_L_hurt 5 rfl) cw_L_44 ⟨w_423, w_424⟩ rfl (by decide) rfl ⟨by decide, by decide⟩ rfl (Nat.le_of_ble_eq_true rfl) ⟨by decide, by decide⟩ (fun _ => ?_) (fun q => absurd (Nat.eq_of_beq_eq_true z_3) q)
    refine go_i2l (d_L_hurt 8 rfl) ?_
    obtain ⟨g_4, h⟩ := gd_some h
    obtain ⟨v_5, ev_5, h⟩ := ln_some h
    refine go_last (y := r_1.2.1) (d_L_hurt 9 rfl) rfl g_4 ?_
    rw [← ev_5]
    refine go_goto (tgt := 25) (d_L_hurt 10 rfl) (by decide) ?_
    refine go_iconst (x := (0 : Int32)) (d_L_hurt 25 rfl) (by decide) ?_
    exact go_iret (d_L_hurt 26 rfl) rfl rfl (Option.some.inj h) (by decide) (by decide)
  rcases br_some h with ⟨z_7, h⟩ | ⟨z_7, h⟩
  · refine go_cV (As := [.int x1, .int x2]) (rest := [.int ((0 : Int32)), .ref (ad (119))]) (st2 := [.int (r_1.2.1), .int ((0 : Int32)), .ref (ad (119))]) (c2 := 3) (s2 := 18) rfl rfl rfl rfl (Ca_S_hurt hl o_2)  (d_L_hurt 5 rfl) cw_L_44 ⟨w_423, w_424⟩ rfl (by decide) rfl ⟨by decide, by decide⟩ rfl (Nat.le_of_ble_eq_true rfl) ⟨by decide, by decide⟩ (fun q => absurd q (Nat.ne_of_beq_eq_false z_3)) (fun _ => ?_)
    rw [Nat.eq_of_beq_eq_true z_7]
    refine gx_catch [] ⟨0, 10, 13, 13⟩ [⟨0, 10, 17, 15⟩, ⟨0, 10, 21, 21⟩] rfl (fun y hy => nomatch hy) rfl (by decide) w_182 w_193 (fun q_6 => ?_)
    refine go_astore (lv' := [(0, .ref (ad (0))), (1, .int x1), (2, .int x2), (3, .ref (ad (119))), (4, .ref q_6)]) (d_L_hurt 13 rfl) (by decide) rfl ?_
    refine go_iconst (x := (1 : Int32)) (d_L_hurt 15 rfl) (by decide) ?_
    exact go_iret (d_L_hurt 16 rfl) rfl rfl (Option.some.inj h) (by decide) (by decide)
  rcases br_some h with ⟨z_9, h⟩ | ⟨z_9, h⟩
  · refine go_cV (As := [.int x1, .int x2]) (rest := [.int ((0 : Int32)), .ref (ad (119))]) (st2 := [.int (r_1.2.1), .int ((0 : Int32)), .ref (ad (119))]) (c2 := 3) (s2 := 18) rfl rfl rfl rfl (Ca_S_hurt hl o_2)  (d_L_hurt 5 rfl) cw_L_44 ⟨w_423, w_424⟩ rfl (by decide) rfl ⟨by decide, by decide⟩ rfl (Nat.le_of_ble_eq_true rfl) ⟨by decide, by decide⟩ (fun q => absurd q (Nat.ne_of_beq_eq_false z_3)) (fun _ => ?_)
    rw [Nat.eq_of_beq_eq_true z_9]
    refine gx_catch [⟨0, 10, 13, 13⟩] ⟨0, 10, 17, 15⟩ [⟨0, 10, 21, 21⟩] rfl (fun y hy => by
      rcases (by simpa using hy : y = (⟨0, 10, 13, 13⟩ : ExceptionTableEntry)) with rfl
      · exact Or.inr ⟨by decide, _, w_182, by decide +kernel⟩) rfl (by decide) w_183 w_269 (fun q_8 => ?_)
    refine go_astore (lv' := [(0, .ref (ad (0))), (1, .int x1), (2, .int x2), (3, .ref (ad (119))), (4, .ref q_8)]) (d_L_hurt 17 rfl) (by decide) rfl ?_
    refine go_iconst (x := (2 : Int32)) (d_L_hurt 19 rfl) (by decide) ?_
    exact go_iret (d_L_hurt 20 rfl) rfl rfl (Option.some.inj h) (by decide) (by decide)
  rcases br_some h with ⟨z_11, h⟩ | ⟨z_11, h⟩
  · refine go_cV (As := [.int x1, .int x2]) (rest := [.int ((0 : Int32)), .ref (ad (119))]) (st2 := [.int (r_1.2.1), .int ((0 : Int32)), .ref (ad (119))]) (c2 := 3) (s2 := 18) rfl rfl rfl rfl (Ca_S_hurt hl o_2)  (d_L_hurt 5 rfl) cw_L_44 ⟨w_423, w_424⟩ rfl (by decide) rfl ⟨by decide, by decide⟩ rfl (Nat.le_of_ble_eq_true rfl) ⟨by decide, by decide⟩ (fun q => absurd q (Nat.ne_of_beq_eq_false z_3)) (fun _ => ?_)
    rw [Nat.eq_of_beq_eq_true z_11]
    refine gx_catch [⟨0, 10, 13, 13⟩, ⟨0, 10, 17, 15⟩] ⟨0, 10, 21, 21⟩ [] rfl (fun y hy => by
      rcases (by simpa using hy : y = (⟨0, 10, 13, 13⟩ : ExceptionTableEntry) ∨ y = (⟨0, 10, 17, 15⟩ : ExceptionTableEntry)) with rfl | rfl
      · exact Or.inr ⟨by decide, _, w_182, by decide +kernel⟩
      · exact Or.inr ⟨by decide, _, w_183, by decide +kernel⟩) rfl (by decide) w_286 w_297 (fun q_10 => ?_)
    refine go_astore (lv' := [(0, .ref (ad (0))), (1, .int x1), (2, .int x2), (3, .ref (ad (119))), (4, .ref q_10)]) (d_L_hurt 21 rfl) (by decide) rfl ?_
    refine go_iconst (x := (3 : Int32)) (d_L_hurt 23 rfl) (by decide) ?_
    exact go_iret (d_L_hurt 24 rfl) rfl rfl (Option.some.inj h) (by decide) (by decide)
  cases h
abbrev M_L_ask : go_M := (c_L_ask, 5, (some .int), RL, tableOf [(0, 10, 13, 13), (0, 10, 17, 15), (0, 10, 21, 21)], rmD 4 3)
def f_L_ask (x1 : Int32) (x2 : Int32) (v : go_V) : Option go_R := bd (f_S_ask x1 x2 v) (fun r_1 => br (Nat.beq r_1.1 0) (gd (go_in (0 : Int32) 1) (ln (u2 r_1.2.2.2 119 (0 : Int32).toNatClampNeg r_1.2.1) (fun v_5 => some (0, (0 : Int32), 0, v_5)))) (br (Nat.beq r_1.1 1) (some (0, (1 : Int32), 0, r_1.2.2.2)) (br (Nat.beq r_1.1 2) (some (0, (2 : Int32), 0, r_1.2.2.2)) (br (Nat.beq r_1.1 3) (some (0, (3 : Int32), 0, r_1.2.2.2)) (none)))))
set_option maxHeartbeats 4000000 in
set_option maxRecDepth 100000 in
theorem Ca_L_ask {l : Launch} {G : go_G} {ad : Nat → Nat} (hl : l.stackTraces = false) {r : go_R} {x1 : Int32} {x2 : Int32} {v : go_V} (h : f_L_ask x1 x2 v = some r) : Ca l G y_L_ask (.codeWith y_L_ask c_L_ask 5 (some .int) [(0, 10, 13, 13), (0, 10, 17, 15), (0, 10, 21, 21)] :: go_TT) (rmD 4 3) 1 ad [.ref (ad (0)), .int x1, .int x2, .ref (ad (119))] v r := by
  unfold f_L_ask at h
  refine go_bodyX (own := RL) (by decide) rfl (Nat.le_of_ble_eq_true rfl) ?_
  show Go l G M_L_ask go_Ex0 (go_E G ad 1 r 3 18) ad v [(0, .ref (ad (0))), (1, .int x1), (2, .int x2), (3, .ref (ad (119)))] 0 [] 0 0
  refine go_aload_n (d_L_ask 0 rfl) rfl rfl ?_
  refine go_iconst (x := (0 : Int32)) (d_L_ask 1 rfl) (by decide) ?_
  refine go_aload_n (d_L_ask 2 rfl) rfl rfl ?_
  refine go_iload_n (d_L_ask 3 rfl) rfl rfl ?_
  refine go_iload_n (d_L_ask 4 rfl) rfl rfl ?_
  obtain ⟨r_1, o_2, h⟩ := bd_some h
  rcases br_some h with ⟨z_3, h⟩ | ⟨z_3, h⟩
  · refine go_cV (As := [.int x1, .int x2]) (rest := [.int ((0 : Int32)), .ref (ad (119))]) (st2 := [.int (r_1.2.1), .int ((0 : Int32)), .ref (ad (119))]) (c2 := 3) (s2 := 18) rfl rfl rfl rfl (Ca_S_ask hl o_2)  (d_L_ask 5 rfl) cw_L_47 ⟨w_430, w_431⟩ rfl (by decide) rfl ⟨by decide, by decide⟩ rfl (Nat.le_of_ble_eq_true rfl) ⟨by decide, by decide⟩ (fun _ => ?_) (fun q => absurd (Nat.eq_of_beq_eq_true z_3) q)
    refine go_i2l (d_L_ask 8 rfl) ?_
    obtain ⟨g_4, h⟩ := gd_some h
    obtain ⟨v_5, ev_5, h⟩ := ln_some h
    refine go_last (y := r_1.2.1) (d_L_ask 9 rfl) rfl g_4 ?_
    rw [← ev_5]
    refine go_goto (tgt := 25) (d_L_ask 10 rfl) (by decide) ?_
    refine go_iconst (x := (0 : Int32)) (d_L_ask 25 rfl) (by decide) ?_
    exact go_iret (d_L_ask 26 rfl) rfl rfl (Option.some.inj h) (by decide) (by decide)
  rcases br_some h with ⟨z_7, h⟩ | ⟨z_7, h⟩
  · refine go_cV (As := [.int x1, .int x2]) (rest := [.int ((0 : Int32)), .ref (ad (119))]) (st2 := [.int (r_1.2.1), .int ((0 : Int32)), .ref (ad (119))]) (c2 := 3) (s2 := 18) rfl rfl rfl rfl (Ca_S_ask hl o_2)  (d_L_ask 5 rfl) cw_L_47 ⟨w_430, w_431⟩ rfl (by decide) rfl ⟨by decide, by decide⟩ rfl (Nat.le_of_ble_eq_true rfl) ⟨by decide, by decide⟩ (fun q => absurd q (Nat.ne_of_beq_eq_false z_3)) (fun _ => ?_)
    rw [Nat.eq_of_beq_eq_true z_7]
    refine gx_catch [] ⟨0, 10, 13, 13⟩ [⟨0, 10, 17, 15⟩, ⟨0, 10, 21, 21⟩] rfl (fun y hy => nomatch hy) rfl (by decide) w_182 w_193 (fun q_6 => ?_)
    refine go_astore (lv' := [(0, .ref (ad (0))), (1, .int x1), (2, .int x2), (3, .ref (ad (119))), (4, .ref q_6)]) (d_L_ask 13 rfl) (by decide) rfl ?_
    refine go_iconst (x := (1 : Int32)) (d_L_ask 15 rfl) (by decide) ?_
    exact go_iret (d_L_ask 16 rfl) rfl rfl (Option.some.inj h) (by decide) (by decide)
  rcases br_some h with ⟨z_9, h⟩ | ⟨z_9, h⟩
  · refine go_cV (As := [.int x1, .int x2]) (rest := [.int ((0 : Int32)), .ref (ad (119))]) (st2 := [.int (r_1.2.1), .int ((0 : Int32)), .ref (ad (119))]) (c2 := 3) (s2 := 18) rfl rfl rfl rfl (Ca_S_ask hl o_2)  (d_L_ask 5 rfl) cw_L_47 ⟨w_430, w_431⟩ rfl (by decide) rfl ⟨by decide, by decide⟩ rfl (Nat.le_of_ble_eq_true rfl) ⟨by decide, by decide⟩ (fun q => absurd q (Nat.ne_of_beq_eq_false z_3)) (fun _ => ?_)
    rw [Nat.eq_of_beq_eq_true z_9]
    refine gx_catch [⟨0, 10, 13, 13⟩] ⟨0, 10, 17, 15⟩ [⟨0, 10, 21, 21⟩] rfl (fun y hy => by
      rcases (by simpa using hy : y = (⟨0, 10, 13, 13⟩ : ExceptionTableEntry)) with rfl
      · exact Or.inr ⟨by decide, _, w_182, by decide +kernel⟩) rfl (by decide) w_183 w_269 (fun q_8 => ?_)
    refine go_astore (lv' := [(0, .ref (ad (0))), (1, .int x1), (2, .int x2), (3, .ref (ad (119))), (4, .ref q_8)]) (d_L_ask 17 rfl) (by decide) rfl ?_
    refine go_iconst (x := (2 : Int32)) (d_L_ask 19 rfl) (by decide) ?_
    exact go_iret (d_L_ask 20 rfl) rfl rfl (Option.some.inj h) (by decide) (by decide)
  rcases br_some h with ⟨z_11, h⟩ | ⟨z_11, h⟩
  · refine go_cV (As := [.int x1, .int x2]) (rest := [.int ((0 : Int32)), .ref (ad (119))]) (st2 := [.int (r_1.2.1), .int ((0 : Int32)), .ref (ad (119))]) (c2 := 3) (s2 := 18) rfl rfl rfl rfl (Ca_S_ask hl o_2)  (d_L_ask 5 rfl) cw_L_47 ⟨w_430, w_431⟩ rfl (by decide) rfl ⟨by decide, by decide⟩ rfl (Nat.le_of_ble_eq_true rfl) ⟨by decide, by decide⟩ (fun q => absurd q (Nat.ne_of_beq_eq_false z_3)) (fun _ => ?_)
    rw [Nat.eq_of_beq_eq_true z_11]
    refine gx_catch [⟨0, 10, 13, 13⟩, ⟨0, 10, 17, 15⟩] ⟨0, 10, 21, 21⟩ [] rfl (fun y hy => by
      rcases (by simpa using hy : y = (⟨0, 10, 13, 13⟩ : ExceptionTableEntry) ∨ y = (⟨0, 10, 17, 15⟩ : ExceptionTableEntry)) with rfl | rfl
      · exact Or.inr ⟨by decide, _, w_182, by decide +kernel⟩
      · exact Or.inr ⟨by decide, _, w_183, by decide +kernel⟩) rfl (by decide) w_286 w_297 (fun q_10 => ?_)
    refine go_astore (lv' := [(0, .ref (ad (0))), (1, .int x1), (2, .int x2), (3, .ref (ad (119))), (4, .ref q_10)]) (d_L_ask 21 rfl) (by decide) rfl ?_
    refine go_iconst (x := (3 : Int32)) (d_L_ask 23 rfl) (by decide) ?_
    exact go_iret (d_L_ask 24 rfl) rfl rfl (Option.some.inj h) (by decide) (by decide)
  cases h
abbrev M_L_tell : go_M := (c_L_tell, 3, (some .int), RL, tableOf [(0, 5, 8, 13), (0, 5, 11, 21)], rmD 2 2)
def f_L_tell (x1 : Int32) (v : go_V) : Option go_R := bd (f_S_tell x1 v) (fun r_1 => br (Nat.beq r_1.1 0) (some (0, (0 : Int32), 0, r_1.2.2.2)) (br (Nat.beq r_1.1 1) (some (0, (1 : Int32), 0, r_1.2.2.2)) (br (Nat.beq r_1.1 3) (some (0, (2 : Int32), 0, r_1.2.2.2)) (none))))
set_option maxHeartbeats 4000000 in
set_option maxRecDepth 100000 in
theorem Ca_L_tell {l : Launch} {G : go_G} {ad : Nat → Nat} (hl : l.stackTraces = false) {r : go_R} {x1 : Int32} {v : go_V} (h : f_L_tell x1 v = some r) : Ca l G y_L_tell (.codeWith y_L_tell c_L_tell 3 (some .int) [(0, 5, 8, 13), (0, 5, 11, 21)] :: go_TT) (rmD 2 2) 1 ad [.ref (ad (0)), .int x1] v r := by
  unfold f_L_tell at h
  refine go_bodyX (own := RL) (by decide) rfl (Nat.le_of_ble_eq_true rfl) ?_
  show Go l G M_L_tell go_Ex0 (go_E G ad 1 r 2 12) ad v [(0, .ref (ad (0))), (1, .int x1)] 0 [] 0 0
  refine go_aload_n (d_L_tell 0 rfl) rfl rfl ?_
  refine go_iload_n (d_L_tell 1 rfl) rfl rfl ?_
  obtain ⟨r_1, o_2, h⟩ := bd_some h
  rcases br_some h with ⟨z_3, h⟩ | ⟨z_3, h⟩
  · refine go_cV (As := [.int x1]) (rest := []) (st2 := []) (c2 := 2) (s2 := 12) rfl rfl rfl rfl (Ca_S_tell hl o_2)  (d_L_tell 2 rfl) cw_L_50 ⟨w_437, w_438⟩ rfl (by decide) rfl ⟨by decide, by decide⟩ rfl (Nat.le_of_ble_eq_true rfl) ⟨by decide, by decide⟩ (fun _ => ?_) (fun q => absurd (Nat.eq_of_beq_eq_true z_3) q)
    refine go_goto (tgt := 14) (d_L_tell 5 rfl) (by decide) ?_
    refine go_iconst (x := (0 : Int32)) (d_L_tell 14 rfl) (by decide) ?_
    exact go_iret (d_L_tell 15 rfl) rfl rfl (Option.some.inj h) (by decide) (by decide)
  rcases br_some h with ⟨z_5, h⟩ | ⟨z_5, h⟩
  · refine go_cV (As := [.int x1]) (rest := []) (st2 := []) (c2 := 2) (s2 := 12) rfl rfl rfl rfl (Ca_S_tell hl o_2)  (d_L_tell 2 rfl) cw_L_50 ⟨w_437, w_438⟩ rfl (by decide) rfl ⟨by decide, by decide⟩ rfl (Nat.le_of_ble_eq_true rfl) ⟨by decide, by decide⟩ (fun q => absurd q (Nat.ne_of_beq_eq_false z_3)) (fun _ => ?_)
    rw [Nat.eq_of_beq_eq_true z_5]
    refine gx_catch [] ⟨0, 5, 8, 13⟩ [⟨0, 5, 11, 21⟩] rfl (fun y hy => nomatch hy) rfl (by decide) w_182 w_193 (fun q_4 => ?_)
    refine go_astore_n (lv' := [(0, .ref (ad (0))), (1, .int x1), (2, .ref q_4)]) (d_L_tell 8 rfl) rfl (by decide) rfl ?_
    refine go_iconst (x := (1 : Int32)) (d_L_tell 9 rfl) (by decide) ?_
    exact go_iret (d_L_tell 10 rfl) rfl rfl (Option.some.inj h) (by decide) (by decide)
  rcases br_some h with ⟨z_7, h⟩ | ⟨z_7, h⟩
  · refine go_cV (As := [.int x1]) (rest := []) (st2 := []) (c2 := 2) (s2 := 12) rfl rfl rfl rfl (Ca_S_tell hl o_2)  (d_L_tell 2 rfl) cw_L_50 ⟨w_437, w_438⟩ rfl (by decide) rfl ⟨by decide, by decide⟩ rfl (Nat.le_of_ble_eq_true rfl) ⟨by decide, by decide⟩ (fun q => absurd q (Nat.ne_of_beq_eq_false z_3)) (fun _ => ?_)
    rw [Nat.eq_of_beq_eq_true z_7]
    refine gx_catch [⟨0, 5, 8, 13⟩] ⟨0, 5, 11, 21⟩ [] rfl (fun y hy => by
      rcases (by simpa using hy : y = (⟨0, 5, 8, 13⟩ : ExceptionTableEntry)) with rfl
      · exact Or.inr ⟨by decide, _, w_182, by decide +kernel⟩) rfl (by decide) w_286 w_297 (fun q_6 => ?_)
    refine go_astore_n (lv' := [(0, .ref (ad (0))), (1, .int x1), (2, .ref q_6)]) (d_L_tell 11 rfl) rfl (by decide) rfl ?_
    refine go_iconst (x := (2 : Int32)) (d_L_tell 12 rfl) (by decide) ?_
    exact go_iret (d_L_tell 13 rfl) rfl rfl (Option.some.inj h) (by decide) (by decide)
  cases h
abbrev M_L_calm : go_M := (c_L_calm, 5, (some .int), RL, tableOf [(0, 10, 13, 13), (0, 10, 17, 21)], rmD 4 4)
def f_L_calm (x1 : Int32) (x2 : Int32) (v : go_V) : Option go_R := bd (f_S_calm x1 x2 v) (fun r_1 => br (Nat.beq r_1.1 0) (gd (go_in (0 : Int32) 1) (ln (u2 r_1.2.2.2 119 (0 : Int32).toNatClampNeg r_1.2.1) (fun v_5 => some (0, (0 : Int32), 0, v_5)))) (br (Nat.beq r_1.1 1) (some (0, (1 : Int32), 0, r_1.2.2.2)) (br (Nat.beq r_1.1 3) (some (0, (2 : Int32), 0, r_1.2.2.2)) (none))))
set_option maxHeartbeats 4000000 in
set_option maxRecDepth 100000 in
theorem Ca_L_calm {l : Launch} {G : go_G} {ad : Nat → Nat} (hl : l.stackTraces = false) {r : go_R} {x1 : Int32} {x2 : Int32} {v : go_V} (h : f_L_calm x1 x2 v = some r) : Ca l G y_L_calm (.codeWith y_L_calm c_L_calm 5 (some .int) [(0, 10, 13, 13), (0, 10, 17, 21)] :: go_TT) (rmD 4 4) 1 ad [.ref (ad (0)), .int x1, .int x2, .ref (ad (119))] v r := by
  unfold f_L_calm at h
  refine go_bodyX (own := RL) (by decide) rfl (Nat.le_of_ble_eq_true rfl) ?_
  show Go l G M_L_calm go_Ex0 (go_E G ad 1 r 4 24) ad v [(0, .ref (ad (0))), (1, .int x1), (2, .int x2), (3, .ref (ad (119)))] 0 [] 0 0
  refine go_aload_n (d_L_calm 0 rfl) rfl rfl ?_
  refine go_iconst (x := (0 : Int32)) (d_L_calm 1 rfl) (by decide) ?_
  refine go_aload_n (d_L_calm 2 rfl) rfl rfl ?_
  refine go_iload_n (d_L_calm 3 rfl) rfl rfl ?_
  refine go_iload_n (d_L_calm 4 rfl) rfl rfl ?_
  obtain ⟨r_1, o_2, h⟩ := bd_some h
  rcases br_some h with ⟨z_3, h⟩ | ⟨z_3, h⟩
  · refine go_cV (As := [.int x1, .int x2]) (rest := [.int ((0 : Int32)), .ref (ad (119))]) (st2 := [.int (r_1.2.1), .int ((0 : Int32)), .ref (ad (119))]) (c2 := 4) (s2 := 24) rfl rfl rfl rfl (Ca_S_calm hl o_2)  (d_L_calm 5 rfl) cw_L_53 ⟨w_444, w_445⟩ rfl (by decide) rfl ⟨by decide, by decide⟩ rfl (Nat.le_of_ble_eq_true rfl) ⟨by decide, by decide⟩ (fun _ => ?_) (fun q => absurd (Nat.eq_of_beq_eq_true z_3) q)
    refine go_i2l (d_L_calm 8 rfl) ?_
    obtain ⟨g_4, h⟩ := gd_some h
    obtain ⟨v_5, ev_5, h⟩ := ln_some h
    refine go_last (y := r_1.2.1) (d_L_calm 9 rfl) rfl g_4 ?_
    rw [← ev_5]
    refine go_goto (tgt := 21) (d_L_calm 10 rfl) (by decide) ?_
    refine go_iconst (x := (0 : Int32)) (d_L_calm 21 rfl) (by decide) ?_
    exact go_iret (d_L_calm 22 rfl) rfl rfl (Option.some.inj h) (by decide) (by decide)
  rcases br_some h with ⟨z_7, h⟩ | ⟨z_7, h⟩
  · refine go_cV (As := [.int x1, .int x2]) (rest := [.int ((0 : Int32)), .ref (ad (119))]) (st2 := [.int (r_1.2.1), .int ((0 : Int32)), .ref (ad (119))]) (c2 := 4) (s2 := 24) rfl rfl rfl rfl (Ca_S_calm hl o_2)  (d_L_calm 5 rfl) cw_L_53 ⟨w_444, w_445⟩ rfl (by decide) rfl ⟨by decide, by decide⟩ rfl (Nat.le_of_ble_eq_true rfl) ⟨by decide, by decide⟩ (fun q => absurd q (Nat.ne_of_beq_eq_false z_3)) (fun _ => ?_)
    rw [Nat.eq_of_beq_eq_true z_7]
    refine gx_catch [] ⟨0, 10, 13, 13⟩ [⟨0, 10, 17, 21⟩] rfl (fun y hy => nomatch hy) rfl (by decide) w_182 w_193 (fun q_6 => ?_)
    refine go_astore (lv' := [(0, .ref (ad (0))), (1, .int x1), (2, .int x2), (3, .ref (ad (119))), (4, .ref q_6)]) (d_L_calm 13 rfl) (by decide) rfl ?_
    refine go_iconst (x := (1 : Int32)) (d_L_calm 15 rfl) (by decide) ?_
    exact go_iret (d_L_calm 16 rfl) rfl rfl (Option.some.inj h) (by decide) (by decide)
  rcases br_some h with ⟨z_9, h⟩ | ⟨z_9, h⟩
  · refine go_cV (As := [.int x1, .int x2]) (rest := [.int ((0 : Int32)), .ref (ad (119))]) (st2 := [.int (r_1.2.1), .int ((0 : Int32)), .ref (ad (119))]) (c2 := 4) (s2 := 24) rfl rfl rfl rfl (Ca_S_calm hl o_2)  (d_L_calm 5 rfl) cw_L_53 ⟨w_444, w_445⟩ rfl (by decide) rfl ⟨by decide, by decide⟩ rfl (Nat.le_of_ble_eq_true rfl) ⟨by decide, by decide⟩ (fun q => absurd q (Nat.ne_of_beq_eq_false z_3)) (fun _ => ?_)
    rw [Nat.eq_of_beq_eq_true z_9]
    refine gx_catch [⟨0, 10, 13, 13⟩] ⟨0, 10, 17, 21⟩ [] rfl (fun y hy => by
      rcases (by simpa using hy : y = (⟨0, 10, 13, 13⟩ : ExceptionTableEntry)) with rfl
      · exact Or.inr ⟨by decide, _, w_182, by decide +kernel⟩) rfl (by decide) w_286 w_297 (fun q_8 => ?_)
    refine go_astore (lv' := [(0, .ref (ad (0))), (1, .int x1), (2, .int x2), (3, .ref (ad (119))), (4, .ref q_8)]) (d_L_calm 17 rfl) (by decide) rfl ?_
    refine go_iconst (x := (2 : Int32)) (d_L_calm 19 rfl) (by decide) ?_
    exact go_iret (d_L_calm 20 rfl) rfl rfl (Option.some.inj h) (by decide) (by decide)
  cases h
abbrev M_L_unit : go_M := (c_L_unit, 4, (some .int), RL, tableOf [(0, 9, 12, 13), (0, 9, 15, 27)], rmD 2 2)
def f_L_unit (x1 : Int32) (v : go_V) : Option go_R := bd (f_S_unit x1 v) (fun r_1 => br (Nat.beq r_1.1 0) (gd (go_in (0 : Int32) 1) (ln (u2 r_1.2.2.2 119 (0 : Int32).toNatClampNeg r_1.2.1) (fun v_5 => some (0, (0 : Int32), 0, v_5)))) (br (Nat.beq r_1.1 1) (some (0, (1 : Int32), 0, r_1.2.2.2)) (br (Nat.beq r_1.1 4) (some (0, (2 : Int32), 0, r_1.2.2.2)) (none))))
set_option maxHeartbeats 4000000 in
set_option maxRecDepth 100000 in
theorem Ca_L_unit {l : Launch} {G : go_G} {ad : Nat → Nat} (hl : l.stackTraces = false) {r : go_R} {x1 : Int32} {v : go_V} (h : f_L_unit x1 v = some r) : Ca l G y_L_unit (.codeWith y_L_unit c_L_unit 4 (some .int) [(0, 9, 12, 13), (0, 9, 15, 27)] :: go_TT) (rmD 2 2) 1 ad [.ref (ad (0)), .int x1, .ref (ad (119))] v r := by
  unfold f_L_unit at h
  refine go_bodyX (own := RL) (by decide) rfl (Nat.le_of_ble_eq_true rfl) ?_
  show Go l G M_L_unit go_Ex0 (go_E G ad 1 r 2 12) ad v [(0, .ref (ad (0))), (1, .int x1), (2, .ref (ad (119)))] 0 [] 0 0
  refine go_aload_n (d_L_unit 0 rfl) rfl rfl ?_
  refine go_iconst (x := (0 : Int32)) (d_L_unit 1 rfl) (by decide) ?_
  refine go_aload_n (d_L_unit 2 rfl) rfl rfl ?_
  refine go_iload_n (d_L_unit 3 rfl) rfl rfl ?_
  obtain ⟨r_1, o_2, h⟩ := bd_some h
  rcases br_some h with ⟨z_3, h⟩ | ⟨z_3, h⟩
  · refine go_cV (As := [.int x1]) (rest := [.int ((0 : Int32)), .ref (ad (119))]) (st2 := [.int (r_1.2.1), .int ((0 : Int32)), .ref (ad (119))]) (c2 := 2) (s2 := 12) rfl rfl rfl rfl (Ca_S_unit hl o_2)  (d_L_unit 4 rfl) cw_L_56 ⟨w_475, w_476⟩ rfl (by decide) rfl ⟨by decide, by decide⟩ rfl (Nat.le_of_ble_eq_true rfl) ⟨by decide, by decide⟩ (fun _ => ?_) (fun q => absurd (Nat.eq_of_beq_eq_true z_3) q)
    refine go_i2l (d_L_unit 7 rfl) ?_
    obtain ⟨g_4, h⟩ := gd_some h
    obtain ⟨v_5, ev_5, h⟩ := ln_some h
    refine go_last (y := r_1.2.1) (d_L_unit 8 rfl) rfl g_4 ?_
    rw [← ev_5]
    refine go_goto (tgt := 18) (d_L_unit 9 rfl) (by decide) ?_
    refine go_iconst (x := (0 : Int32)) (d_L_unit 18 rfl) (by decide) ?_
    exact go_iret (d_L_unit 19 rfl) rfl rfl (Option.some.inj h) (by decide) (by decide)
  rcases br_some h with ⟨z_7, h⟩ | ⟨z_7, h⟩
  · refine go_cV (As := [.int x1]) (rest := [.int ((0 : Int32)), .ref (ad (119))]) (st2 := [.int (r_1.2.1), .int ((0 : Int32)), .ref (ad (119))]) (c2 := 2) (s2 := 12) rfl rfl rfl rfl (Ca_S_unit hl o_2)  (d_L_unit 4 rfl) cw_L_56 ⟨w_475, w_476⟩ rfl (by decide) rfl ⟨by decide, by decide⟩ rfl (Nat.le_of_ble_eq_true rfl) ⟨by decide, by decide⟩ (fun q => absurd q (Nat.ne_of_beq_eq_false z_3)) (fun _ => ?_)
    rw [Nat.eq_of_beq_eq_true z_7]
    refine gx_catch [] ⟨0, 9, 12, 13⟩ [⟨0, 9, 15, 27⟩] rfl (fun y hy => nomatch hy) rfl (by decide) w_182 w_193 (fun q_6 => ?_)
    refine go_astore_n (lv' := [(0, .ref (ad (0))), (1, .int x1), (2, .ref (ad (119))), (3, .ref q_6)]) (d_L_unit 12 rfl) rfl (by decide) rfl ?_
    refine go_iconst (x := (1 : Int32)) (d_L_unit 13 rfl) (by decide) ?_
    exact go_iret (d_L_unit 14 rfl) rfl rfl (Option.some.inj h) (by decide) (by decide)
  rcases br_some h with ⟨z_9, h⟩ | ⟨z_9, h⟩
  · refine go_cV (As := [.int x1]) (rest := [.int ((0 : Int32)), .ref (ad (119))]) (st2 := [.int (r_1.2.1), .int ((0 : Int32)), .ref (ad (119))]) (c2 := 2) (s2 := 12) rfl rfl rfl rfl (Ca_S_unit hl o_2)  (d_L_unit 4 rfl) cw_L_56 ⟨w_475, w_476⟩ rfl (by decide) rfl ⟨by decide, by decide⟩ rfl (Nat.le_of_ble_eq_true rfl) ⟨by decide, by decide⟩ (fun q => absurd q (Nat.ne_of_beq_eq_false z_3)) (fun _ => ?_)
    rw [Nat.eq_of_beq_eq_true z_9]
    refine gx_catch [⟨0, 9, 12, 13⟩] ⟨0, 9, 15, 27⟩ [] rfl (fun y hy => by
      rcases (by simpa using hy : y = (⟨0, 9, 12, 13⟩ : ExceptionTableEntry)) with rfl
      · exact Or.inr ⟨by decide, _, w_182, by decide +kernel⟩) rfl (by decide) w_314 w_327 (fun q_8 => ?_)
    refine go_astore_n (lv' := [(0, .ref (ad (0))), (1, .int x1), (2, .ref (ad (119))), (3, .ref q_8)]) (d_L_unit 15 rfl) rfl (by decide) rfl ?_
    refine go_iconst (x := (2 : Int32)) (d_L_unit 16 rfl) (by decide) ?_
    exact go_iret (d_L_unit 17 rfl) rfl rfl (Option.some.inj h) (by decide) (by decide)
  cases h
abbrev M_L_go : go_M := (c_L_go, 5, (some .int), RL, tableOf [(0, 7, 10, 13), (0, 7, 14, 15), (0, 7, 18, 21)], rmD 2 5)
def f_L_go (x1 : Int32) (x2 : Int32) (x3 : Int32) (v : go_V) : Option go_R := bd (f_S_go x1 x2 x3 v) (fun r_1 => br (Nat.beq r_1.1 0) (some (0, (0 : Int32), 0, r_1.2.2.2)) (br (Nat.beq r_1.1 1) (some (0, (1 : Int32), 0, r_1.2.2.2)) (br (Nat.beq r_1.1 2) (some (0, (2 : Int32), 0, r_1.2.2.2)) (br (Nat.beq r_1.1 3) (some (0, (3 : Int32), 0, r_1.2.2.2)) (none)))))
set_option maxHeartbeats 4000000 in
set_option maxRecDepth 100000 in
theorem Ca_L_go {l : Launch} {G : go_G} {ad : Nat → Nat} (hl : l.stackTraces = false) {r : go_R} {x1 : Int32} {x2 : Int32} {x3 : Int32} {v : go_V} (h : f_L_go x1 x2 x3 v = some r) : Ca l G y_L_go (.codeWith y_L_go c_L_go 5 (some .int) [(0, 7, 10, 13), (0, 7, 14, 15), (0, 7, 18, 21)] :: go_TT) (rmD 2 5) 1 ad [.ref (ad (0)), .int x1, .int x2, .int x3] v r := by
  unfold f_L_go at h
  refine go_bodyX (own := RL) (by decide) rfl (Nat.le_of_ble_eq_true rfl) ?_
  show Go l G M_L_go go_Ex0 (go_E G ad 1 r 5 30) ad v [(0, .ref (ad (0))), (1, .int x1), (2, .int x2), (3, .int x3)] 0 [] 0 0
  refine go_aload_n (d_L_go 0 rfl) rfl rfl ?_
  refine go_iload_n (d_L_go 1 rfl) rfl rfl ?_
  refine go_iload_n (d_L_go 2 rfl) rfl rfl ?_
  refine go_iload_n (d_L_go 3 rfl) rfl rfl ?_
  obtain ⟨r_1, o_2, h⟩ := bd_some h
  rcases br_some h with ⟨z_3, h⟩ | ⟨z_3, h⟩
  · refine go_cV (As := [.int x1, .int x2, .int x3]) (rest := []) (st2 := []) (c2 := 5) (s2 := 30) rfl rfl rfl rfl (Ca_S_go hl o_2)  (d_L_go 4 rfl) cw_L_59 ⟨w_483, w_484⟩ rfl (by decide) rfl ⟨by decide, by decide⟩ rfl (Nat.le_of_ble_eq_true rfl) ⟨by decide, by decide⟩ (fun _ => ?_) (fun q => absurd (Nat.eq_of_beq_eq_true z_3) q)
    refine go_goto (tgt := 22) (d_L_go 7 rfl) (by decide) ?_
    refine go_iconst (x := (0 : Int32)) (d_L_go 22 rfl) (by decide) ?_
    exact go_iret (d_L_go 23 rfl) rfl rfl (Option.some.inj h) (by decide) (by decide)
  rcases br_some h with ⟨z_5, h⟩ | ⟨z_5, h⟩
  · refine go_cV (As := [.int x1, .int x2, .int x3]) (rest := []) (st2 := []) (c2 := 5) (s2 := 30) rfl rfl rfl rfl (Ca_S_go hl o_2)  (d_L_go 4 rfl) cw_L_59 ⟨w_483, w_484⟩ rfl (by decide) rfl ⟨by decide, by decide⟩ rfl (Nat.le_of_ble_eq_true rfl) ⟨by decide, by decide⟩ (fun q => absurd q (Nat.ne_of_beq_eq_false z_3)) (fun _ => ?_)
    rw [Nat.eq_of_beq_eq_true z_5]
    refine gx_catch [] ⟨0, 7, 10, 13⟩ [⟨0, 7, 14, 15⟩, ⟨0, 7, 18, 21⟩] rfl (fun y hy => nomatch hy) rfl (by decide) w_182 w_193 (fun q_4 => ?_)
    refine go_astore (lv' := [(0, .ref (ad (0))), (1, .int x1), (2, .int x2), (3, .int x3), (4, .ref q_4)]) (d_L_go 10 rfl) (by decide) rfl ?_
    refine go_iconst (x := (1 : Int32)) (d_L_go 12 rfl) (by decide) ?_
    exact go_iret (d_L_go 13 rfl) rfl rfl (Option.some.inj h) (by decide) (by decide)
  rcases br_some h with ⟨z_7, h⟩ | ⟨z_7, h⟩
  · refine go_cV (As := [.int x1, .int x2, .int x3]) (rest := []) (st2 := []) (c2 := 5) (s2 := 30) rfl rfl rfl rfl (Ca_S_go hl o_2)  (d_L_go 4 rfl) cw_L_59 ⟨w_483, w_484⟩ rfl (by decide) rfl ⟨by decide, by decide⟩ rfl (Nat.le_of_ble_eq_true rfl) ⟨by decide, by decide⟩ (fun q => absurd q (Nat.ne_of_beq_eq_false z_3)) (fun _ => ?_)
    rw [Nat.eq_of_beq_eq_true z_7]
    refine gx_catch [⟨0, 7, 10, 13⟩] ⟨0, 7, 14, 15⟩ [⟨0, 7, 18, 21⟩] rfl (fun y hy => by
      rcases (by simpa using hy : y = (⟨0, 7, 10, 13⟩ : ExceptionTableEntry)) with rfl
      · exact Or.inr ⟨by decide, _, w_182, by decide +kernel⟩) rfl (by decide) w_183 w_269 (fun q_6 => ?_)
    refine go_astore (lv' := [(0, .ref (ad (0))), (1, .int x1), (2, .int x2), (3, .int x3), (4, .ref q_6)]) (d_L_go 14 rfl) (by decide) rfl ?_
    refine go_iconst (x := (2 : Int32)) (d_L_go 16 rfl) (by decide) ?_
    exact go_iret (d_L_go 17 rfl) rfl rfl (Option.some.inj h) (by decide) (by decide)
  rcases br_some h with ⟨z_9, h⟩ | ⟨z_9, h⟩
  · refine go_cV (As := [.int x1, .int x2, .int x3]) (rest := []) (st2 := []) (c2 := 5) (s2 := 30) rfl rfl rfl rfl (Ca_S_go hl o_2)  (d_L_go 4 rfl) cw_L_59 ⟨w_483, w_484⟩ rfl (by decide) rfl ⟨by decide, by decide⟩ rfl (Nat.le_of_ble_eq_true rfl) ⟨by decide, by decide⟩ (fun q => absurd q (Nat.ne_of_beq_eq_false z_3)) (fun _ => ?_)
    rw [Nat.eq_of_beq_eq_true z_9]
    refine gx_catch [⟨0, 7, 10, 13⟩, ⟨0, 7, 14, 15⟩] ⟨0, 7, 18, 21⟩ [] rfl (fun y hy => by
      rcases (by simpa using hy : y = (⟨0, 7, 10, 13⟩ : ExceptionTableEntry) ∨ y = (⟨0, 7, 14, 15⟩ : ExceptionTableEntry)) with rfl | rfl
      · exact Or.inr ⟨by decide, _, w_182, by decide +kernel⟩
      · exact Or.inr ⟨by decide, _, w_183, by decide +kernel⟩) rfl (by decide) w_286 w_297 (fun q_8 => ?_)
    refine go_astore (lv' := [(0, .ref (ad (0))), (1, .int x1), (2, .int x2), (3, .int x3), (4, .ref q_8)]) (d_L_go 18 rfl) (by decide) rfl ?_
    refine go_iconst (x := (3 : Int32)) (d_L_go 20 rfl) (by decide) ?_
    exact go_iret (d_L_go 21 rfl) rfl rfl (Option.some.inj h) (by decide) (by decide)
  cases h
abbrev M_L_arrive : go_M := (c_L_arrive, 3, (some .int), RL, tableOf [(0, 5, 8, 13), (0, 5, 11, 21)], rmD 2 2)
def f_L_arrive (x1 : Int32) (v : go_V) : Option go_R := bd (f_S_arrive x1 v) (fun r_1 => br (Nat.beq r_1.1 0) (some (0, (0 : Int32), 0, r_1.2.2.2)) (br (Nat.beq r_1.1 1) (some (0, (1 : Int32), 0, r_1.2.2.2)) (br (Nat.beq r_1.1 3) (some (0, (2 : Int32), 0, r_1.2.2.2)) (none))))
set_option maxHeartbeats 4000000 in
set_option maxRecDepth 100000 in
theorem Ca_L_arrive {l : Launch} {G : go_G} {ad : Nat → Nat} (hl : l.stackTraces = false) {r : go_R} {x1 : Int32} {v : go_V} (h : f_L_arrive x1 v = some r) : Ca l G y_L_arrive (.codeWith y_L_arrive c_L_arrive 3 (some .int) [(0, 5, 8, 13), (0, 5, 11, 21)] :: go_TT) (rmD 2 2) 1 ad [.ref (ad (0)), .int x1] v r := by
  unfold f_L_arrive at h
  refine go_bodyX (own := RL) (by decide) rfl (Nat.le_of_ble_eq_true rfl) ?_
  show Go l G M_L_arrive go_Ex0 (go_E G ad 1 r 2 12) ad v [(0, .ref (ad (0))), (1, .int x1)] 0 [] 0 0
  refine go_aload_n (d_L_arrive 0 rfl) rfl rfl ?_
  refine go_iload_n (d_L_arrive 1 rfl) rfl rfl ?_
  obtain ⟨r_1, o_2, h⟩ := bd_some h
  rcases br_some h with ⟨z_3, h⟩ | ⟨z_3, h⟩
  · refine go_cV (As := [.int x1]) (rest := []) (st2 := []) (c2 := 2) (s2 := 12) rfl rfl rfl rfl (Ca_S_arrive hl o_2)  (d_L_arrive 2 rfl) cw_L_62 ⟨w_497, w_498⟩ rfl (by decide) rfl ⟨by decide, by decide⟩ rfl (Nat.le_of_ble_eq_true rfl) ⟨by decide, by decide⟩ (fun _ => ?_) (fun q => absurd (Nat.eq_of_beq_eq_true z_3) q)
    refine go_goto (tgt := 14) (d_L_arrive 5 rfl) (by decide) ?_
    refine go_iconst (x := (0 : Int32)) (d_L_arrive 14 rfl) (by decide) ?_
    exact go_iret (d_L_arrive 15 rfl) rfl rfl (Option.some.inj h) (by decide) (by decide)
  rcases br_some h with ⟨z_5, h⟩ | ⟨z_5, h⟩
  · refine go_cV (As := [.int x1]) (rest := []) (st2 := []) (c2 := 2) (s2 := 12) rfl rfl rfl rfl (Ca_S_arrive hl o_2)  (d_L_arrive 2 rfl) cw_L_62 ⟨w_497, w_498⟩ rfl (by decide) rfl ⟨by decide, by decide⟩ rfl (Nat.le_of_ble_eq_true rfl) ⟨by decide, by decide⟩ (fun q => absurd q (Nat.ne_of_beq_eq_false z_3)) (fun _ => ?_)
    rw [Nat.eq_of_beq_eq_true z_5]
    refine gx_catch [] ⟨0, 5, 8, 13⟩ [⟨0, 5, 11, 21⟩] rfl (fun y hy => nomatch hy) rfl (by decide) w_182 w_193 (fun q_4 => ?_)
    refine go_astore_n (lv' := [(0, .ref (ad (0))), (1, .int x1), (2, .ref q_4)]) (d_L_arrive 8 rfl) rfl (by decide) rfl ?_
    refine go_iconst (x := (1 : Int32)) (d_L_arrive 9 rfl) (by decide) ?_
    exact go_iret (d_L_arrive 10 rfl) rfl rfl (Option.some.inj h) (by decide) (by decide)
  rcases br_some h with ⟨z_7, h⟩ | ⟨z_7, h⟩
  · refine go_cV (As := [.int x1]) (rest := []) (st2 := []) (c2 := 2) (s2 := 12) rfl rfl rfl rfl (Ca_S_arrive hl o_2)  (d_L_arrive 2 rfl) cw_L_62 ⟨w_497, w_498⟩ rfl (by decide) rfl ⟨by decide, by decide⟩ rfl (Nat.le_of_ble_eq_true rfl) ⟨by decide, by decide⟩ (fun q => absurd q (Nat.ne_of_beq_eq_false z_3)) (fun _ => ?_)
    rw [Nat.eq_of_beq_eq_true z_7]
    refine gx_catch [⟨0, 5, 8, 13⟩] ⟨0, 5, 11, 21⟩ [] rfl (fun y hy => by
      rcases (by simpa using hy : y = (⟨0, 5, 8, 13⟩ : ExceptionTableEntry)) with rfl
      · exact Or.inr ⟨by decide, _, w_182, by decide +kernel⟩) rfl (by decide) w_286 w_297 (fun q_6 => ?_)
    refine go_astore_n (lv' := [(0, .ref (ad (0))), (1, .int x1), (2, .ref q_6)]) (d_L_arrive 11 rfl) rfl (by decide) rfl ?_
    refine go_iconst (x := (2 : Int32)) (d_L_arrive 12 rfl) (by decide) ?_
    exact go_iret (d_L_arrive 13 rfl) rfl rfl (Option.some.inj h) (by decide) (by decide)
  cases h
abbrev M_L_needed : go_M := (c_L_needed, 5, (some .int), RL, tableOf [(0, 10, 13, 13), (0, 10, 17, 21)], rmD 3 3)
def f_L_needed (x1 : Int32) (x2 : Int32) (v : go_V) : Option go_R := bd (f_S_needed x1 x2 v) (fun r_1 => br (Nat.beq r_1.1 0) (gd (go_in (0 : Int32) 1) (ln (u2 r_1.2.2.2 119 (0 : Int32).toNatClampNeg r_1.2.1) (fun v_5 => some (0, (0 : Int32), 0, v_5)))) (br (Nat.beq r_1.1 1) (some (0, (1 : Int32), 0, r_1.2.2.2)) (br (Nat.beq r_1.1 3) (some (0, (2 : Int32), 0, r_1.2.2.2)) (none))))
set_option maxHeartbeats 4000000 in
set_option maxRecDepth 100000 in
theorem Ca_L_needed {l : Launch} {G : go_G} {ad : Nat → Nat} (hl : l.stackTraces = false) {r : go_R} {x1 : Int32} {x2 : Int32} {v : go_V} (h : f_L_needed x1 x2 v = some r) : Ca l G y_L_needed (.codeWith y_L_needed c_L_needed 5 (some .int) [(0, 10, 13, 13), (0, 10, 17, 21)] :: go_TT) (rmD 3 3) 1 ad [.ref (ad (0)), .int x1, .int x2, .ref (ad (119))] v r := by
  unfold f_L_needed at h
  refine go_bodyX (own := RL) (by decide) rfl (Nat.le_of_ble_eq_true rfl) ?_
  show Go l G M_L_needed go_Ex0 (go_E G ad 1 r 3 18) ad v [(0, .ref (ad (0))), (1, .int x1), (2, .int x2), (3, .ref (ad (119)))] 0 [] 0 0
  refine go_aload_n (d_L_needed 0 rfl) rfl rfl ?_
  refine go_iconst (x := (0 : Int32)) (d_L_needed 1 rfl) (by decide) ?_
  refine go_aload_n (d_L_needed 2 rfl) rfl rfl ?_
  refine go_iload_n (d_L_needed 3 rfl) rfl rfl ?_
  refine go_iload_n (d_L_needed 4 rfl) rfl rfl ?_
  obtain ⟨r_1, o_2, h⟩ := bd_some h
  rcases br_some h with ⟨z_3, h⟩ | ⟨z_3, h⟩
  · refine go_cV (As := [.int x1, .int x2]) (rest := [.int ((0 : Int32)), .ref (ad (119))]) (st2 := [.int (r_1.2.1), .int ((0 : Int32)), .ref (ad (119))]) (c2 := 3) (s2 := 18) rfl rfl rfl rfl (Ca_S_needed hl o_2)  (d_L_needed 5 rfl) cw_L_65 ⟨w_505, w_506⟩ rfl (by decide) rfl ⟨by decide, by decide⟩ rfl (Nat.le_of_ble_eq_true rfl) ⟨by decide, by decide⟩ (fun _ => ?_) (fun q => absurd (Nat.eq_of_beq_eq_true z_3) q)
    refine go_i2l (d_L_needed 8 rfl) ?_
    obtain ⟨g_4, h⟩ := gd_some h
    obtain ⟨v_5, ev_5, h⟩ := ln_some h
    refine go_last (y := r_1.2.1) (d_L_needed 9 rfl) rfl g_4 ?_
    rw [← ev_5]
    refine go_goto (tgt := 21) (d_L_needed 10 rfl) (by decide) ?_
    refine go_iconst (x := (0 : Int32)) (d_L_needed 21 rfl) (by decide) ?_
    exact go_iret (d_L_needed 22 rfl) rfl rfl (Option.some.inj h) (by decide) (by decide)
  rcases br_some h with ⟨z_7, h⟩ | ⟨z_7, h⟩
  · refine go_cV (As := [.int x1, .int x2]) (rest := [.int ((0 : Int32)), .ref (ad (119))]) (st2 := [.int (r_1.2.1), .int ((0 : Int32)), .ref (ad (119))]) (c2 := 3) (s2 := 18) rfl rfl rfl rfl (Ca_S_needed hl o_2)  (d_L_needed 5 rfl) cw_L_65 ⟨w_505, w_506⟩ rfl (by decide) rfl ⟨by decide, by decide⟩ rfl (Nat.le_of_ble_eq_true rfl) ⟨by decide, by decide⟩ (fun q => absurd q (Nat.ne_of_beq_eq_false z_3)) (fun _ => ?_)
    rw [Nat.eq_of_beq_eq_true z_7]
    refine gx_catch [] ⟨0, 10, 13, 13⟩ [⟨0, 10, 17, 21⟩] rfl (fun y hy => nomatch hy) rfl (by decide) w_182 w_193 (fun q_6 => ?_)
    refine go_astore (lv' := [(0, .ref (ad (0))), (1, .int x1), (2, .int x2), (3, .ref (ad (119))), (4, .ref q_6)]) (d_L_needed 13 rfl) (by decide) rfl ?_
    refine go_iconst (x := (1 : Int32)) (d_L_needed 15 rfl) (by decide) ?_
    exact go_iret (d_L_needed 16 rfl) rfl rfl (Option.some.inj h) (by decide) (by decide)
  rcases br_some h with ⟨z_9, h⟩ | ⟨z_9, h⟩
  · refine go_cV (As := [.int x1, .int x2]) (rest := [.int ((0 : Int32)), .ref (ad (119))]) (st2 := [.int (r_1.2.1), .int ((0 : Int32)), .ref (ad (119))]) (c2 := 3) (s2 := 18) rfl rfl rfl rfl (Ca_S_needed hl o_2)  (d_L_needed 5 rfl) cw_L_65 ⟨w_505, w_506⟩ rfl (by decide) rfl ⟨by decide, by decide⟩ rfl (Nat.le_of_ble_eq_true rfl) ⟨by decide, by decide⟩ (fun q => absurd q (Nat.ne_of_beq_eq_false z_3)) (fun _ => ?_)
    rw [Nat.eq_of_beq_eq_true z_9]
    refine gx_catch [⟨0, 10, 13, 13⟩] ⟨0, 10, 17, 21⟩ [] rfl (fun y hy => by
      rcases (by simpa using hy : y = (⟨0, 10, 13, 13⟩ : ExceptionTableEntry)) with rfl
      · exact Or.inr ⟨by decide, _, w_182, by decide +kernel⟩) rfl (by decide) w_286 w_297 (fun q_8 => ?_)
    refine go_astore (lv' := [(0, .ref (ad (0))), (1, .int x1), (2, .int x2), (3, .ref (ad (119))), (4, .ref q_8)]) (d_L_needed 17 rfl) (by decide) rfl ?_
    refine go_iconst (x := (2 : Int32)) (d_L_needed 19 rfl) (by decide) ?_
    exact go_iret (d_L_needed 20 rfl) rfl rfl (Option.some.inj h) (by decide) (by decide)
  cases h
abbrev M_L_incident : go_M := (c_L_incident, 5, (some .int), RL, tableOf [(0, 10, 13, 13)], rmD 2 2)
def f_L_incident (x1 : Int32) (x2 : Int32) (v : go_V) : Option go_R := bd (f_S_incident x1 x2 v) (fun r_1 => br (Nat.beq r_1.1 0) (gd (go_in (0 : Int32) 1) (ln (u2 r_1.2.2.2 119 (0 : Int32).toNatClampNeg r_1.2.1) (fun v_5 => some (0, (0 : Int32), 0, v_5)))) (br (Nat.beq r_1.1 1) (some (0, (1 : Int32), 0, r_1.2.2.2)) (none)))
set_option maxHeartbeats 4000000 in
set_option maxRecDepth 100000 in
theorem Ca_L_incident {l : Launch} {G : go_G} {ad : Nat → Nat} (hl : l.stackTraces = false) {r : go_R} {x1 : Int32} {x2 : Int32} {v : go_V} (h : f_L_incident x1 x2 v = some r) : Ca l G y_L_incident (.codeWith y_L_incident c_L_incident 5 (some .int) [(0, 10, 13, 13)] :: go_TT) (rmD 2 2) 1 ad [.ref (ad (0)), .int x1, .int x2, .ref (ad (119))] v r := by
  unfold f_L_incident at h
  refine go_bodyX (own := RL) (by decide) rfl (Nat.le_of_ble_eq_true rfl) ?_
  show Go l G M_L_incident go_Ex0 (go_E G ad 1 r 2 12) ad v [(0, .ref (ad (0))), (1, .int x1), (2, .int x2), (3, .ref (ad (119)))] 0 [] 0 0
  refine go_aload_n (d_L_incident 0 rfl) rfl rfl ?_
  refine go_iconst (x := (0 : Int32)) (d_L_incident 1 rfl) (by decide) ?_
  refine go_aload_n (d_L_incident 2 rfl) rfl rfl ?_
  refine go_iload_n (d_L_incident 3 rfl) rfl rfl ?_
  refine go_iload_n (d_L_incident 4 rfl) rfl rfl ?_
  obtain ⟨r_1, o_2, h⟩ := bd_some h
  rcases br_some h with ⟨z_3, h⟩ | ⟨z_3, h⟩
  · refine go_cV (As := [.int x1, .int x2]) (rest := [.int ((0 : Int32)), .ref (ad (119))]) (st2 := [.int (r_1.2.1), .int ((0 : Int32)), .ref (ad (119))]) (c2 := 2) (s2 := 12) rfl rfl rfl rfl (Ca_S_incident hl o_2)  (d_L_incident 5 rfl) cw_L_68 ⟨w_512, w_513⟩ rfl (by decide) rfl ⟨by decide, by decide⟩ rfl (Nat.le_of_ble_eq_true rfl) ⟨by decide, by decide⟩ (fun _ => ?_) (fun q => absurd (Nat.eq_of_beq_eq_true z_3) q)
    refine go_i2l (d_L_incident 8 rfl) ?_
    obtain ⟨g_4, h⟩ := gd_some h
    obtain ⟨v_5, ev_5, h⟩ := ln_some h
    refine go_last (y := r_1.2.1) (d_L_incident 9 rfl) rfl g_4 ?_
    rw [← ev_5]
    refine go_goto (tgt := 17) (d_L_incident 10 rfl) (by decide) ?_
    refine go_iconst (x := (0 : Int32)) (d_L_incident 17 rfl) (by decide) ?_
    exact go_iret (d_L_incident 18 rfl) rfl rfl (Option.some.inj h) (by decide) (by decide)
  rcases br_some h with ⟨z_7, h⟩ | ⟨z_7, h⟩
  · refine go_cV (As := [.int x1, .int x2]) (rest := [.int ((0 : Int32)), .ref (ad (119))]) (st2 := [.int (r_1.2.1), .int ((0 : Int32)), .ref (ad (119))]) (c2 := 2) (s2 := 12) rfl rfl rfl rfl (Ca_S_incident hl o_2)  (d_L_incident 5 rfl) cw_L_68 ⟨w_512, w_513⟩ rfl (by decide) rfl ⟨by decide, by decide⟩ rfl (Nat.le_of_ble_eq_true rfl) ⟨by decide, by decide⟩ (fun q => absurd q (Nat.ne_of_beq_eq_false z_3)) (fun _ => ?_)
    rw [Nat.eq_of_beq_eq_true z_7]
    refine gx_catch [] ⟨0, 10, 13, 13⟩ [] rfl (fun y hy => nomatch hy) rfl (by decide) w_182 w_193 (fun q_6 => ?_)
    refine go_astore (lv' := [(0, .ref (ad (0))), (1, .int x1), (2, .int x2), (3, .ref (ad (119))), (4, .ref q_6)]) (d_L_incident 13 rfl) (by decide) rfl ?_
    refine go_iconst (x := (1 : Int32)) (d_L_incident 15 rfl) (by decide) ?_
    exact go_iret (d_L_incident 16 rfl) rfl rfl (Option.some.inj h) (by decide) (by decide)
  cases h
abbrev M_L_unitAt : go_M := (c_L_unitAt, 5, (some .int), RL, tableOf [(0, 10, 13, 13)], rmD 2 2)
def f_L_unitAt (x1 : Int32) (x2 : Int32) (v : go_V) : Option go_R := bd (f_S_unitAt x1 x2 v) (fun r_1 => br (Nat.beq r_1.1 0) (gd (go_in (0 : Int32) 1) (ln (u2 r_1.2.2.2 119 (0 : Int32).toNatClampNeg r_1.2.1) (fun v_5 => some (0, (0 : Int32), 0, v_5)))) (br (Nat.beq r_1.1 1) (some (0, (1 : Int32), 0, r_1.2.2.2)) (none)))
set_option maxHeartbeats 4000000 in
set_option maxRecDepth 100000 in
theorem Ca_L_unitAt {l : Launch} {G : go_G} {ad : Nat → Nat} (hl : l.stackTraces = false) {r : go_R} {x1 : Int32} {x2 : Int32} {v : go_V} (h : f_L_unitAt x1 x2 v = some r) : Ca l G y_L_unitAt (.codeWith y_L_unitAt c_L_unitAt 5 (some .int) [(0, 10, 13, 13)] :: go_TT) (rmD 2 2) 1 ad [.ref (ad (0)), .int x1, .int x2, .ref (ad (119))] v r := by
  unfold f_L_unitAt at h
  refine go_bodyX (own := RL) (by decide) rfl (Nat.le_of_ble_eq_true rfl) ?_
  show Go l G M_L_unitAt go_Ex0 (go_E G ad 1 r 2 12) ad v [(0, .ref (ad (0))), (1, .int x1), (2, .int x2), (3, .ref (ad (119)))] 0 [] 0 0
  refine go_aload_n (d_L_unitAt 0 rfl) rfl rfl ?_
  refine go_iconst (x := (0 : Int32)) (d_L_unitAt 1 rfl) (by decide) ?_
  refine go_aload_n (d_L_unitAt 2 rfl) rfl rfl ?_
  refine go_iload_n (d_L_unitAt 3 rfl) rfl rfl ?_
  refine go_iload_n (d_L_unitAt 4 rfl) rfl rfl ?_
  obtain ⟨r_1, o_2, h⟩ := bd_some h
  rcases br_some h with ⟨z_3, h⟩ | ⟨z_3, h⟩
  · refine go_cV (As := [.int x1, .int x2]) (rest := [.int ((0 : Int32)), .ref (ad (119))]) (st2 := [.int (r_1.2.1), .int ((0 : Int32)), .ref (ad (119))]) (c2 := 2) (s2 := 12) rfl rfl rfl rfl (Ca_S_unitAt hl o_2)  (d_L_unitAt 5 rfl) cw_L_71 ⟨w_520, w_521⟩ rfl (by decide) rfl ⟨by decide, by decide⟩ rfl (Nat.le_of_ble_eq_true rfl) ⟨by decide, by decide⟩ (fun _ => ?_) (fun q => absurd (Nat.eq_of_beq_eq_true z_3) q)
    refine go_i2l (d_L_unitAt 8 rfl) ?_
    obtain ⟨g_4, h⟩ := gd_some h
    obtain ⟨v_5, ev_5, h⟩ := ln_some h
    refine go_last (y := r_1.2.1) (d_L_unitAt 9 rfl) rfl g_4 ?_
    rw [← ev_5]
    refine go_goto (tgt := 17) (d_L_unitAt 10 rfl) (by decide) ?_
    refine go_iconst (x := (0 : Int32)) (d_L_unitAt 17 rfl) (by decide) ?_
    exact go_iret (d_L_unitAt 18 rfl) rfl rfl (Option.some.inj h) (by decide) (by decide)
  rcases br_some h with ⟨z_7, h⟩ | ⟨z_7, h⟩
  · refine go_cV (As := [.int x1, .int x2]) (rest := [.int ((0 : Int32)), .ref (ad (119))]) (st2 := [.int (r_1.2.1), .int ((0 : Int32)), .ref (ad (119))]) (c2 := 2) (s2 := 12) rfl rfl rfl rfl (Ca_S_unitAt hl o_2)  (d_L_unitAt 5 rfl) cw_L_71 ⟨w_520, w_521⟩ rfl (by decide) rfl ⟨by decide, by decide⟩ rfl (Nat.le_of_ble_eq_true rfl) ⟨by decide, by decide⟩ (fun q => absurd q (Nat.ne_of_beq_eq_false z_3)) (fun _ => ?_)
    rw [Nat.eq_of_beq_eq_true z_7]
    refine gx_catch [] ⟨0, 10, 13, 13⟩ [] rfl (fun y hy => nomatch hy) rfl (by decide) w_182 w_193 (fun q_6 => ?_)
    refine go_astore (lv' := [(0, .ref (ad (0))), (1, .int x1), (2, .int x2), (3, .ref (ad (119))), (4, .ref q_6)]) (d_L_unitAt 13 rfl) (by decide) rfl ?_
    refine go_iconst (x := (1 : Int32)) (d_L_unitAt 15 rfl) (by decide) ?_
    exact go_iret (d_L_unitAt 16 rfl) rfl rfl (Option.some.inj h) (by decide) (by decide)
  cases h
abbrev M_L_acted : go_M := (c_L_acted, 4, (some .int), RL, tableOf [(0, 9, 12, 13)], rmD 1 1)
def f_L_acted (x1 : Int32) (v : go_V) : Option go_R := bd (f_S_acted x1 v) (fun r_1 => br (Nat.beq r_1.1 0) (gd (go_in (0 : Int32) 1) (ln (u2 r_1.2.2.2 119 (0 : Int32).toNatClampNeg r_1.2.1) (fun v_5 => some (0, (0 : Int32), 0, v_5)))) (br (Nat.beq r_1.1 1) (some (0, (1 : Int32), 0, r_1.2.2.2)) (none)))
set_option maxHeartbeats 4000000 in
set_option maxRecDepth 100000 in
theorem Ca_L_acted {l : Launch} {G : go_G} {ad : Nat → Nat} (hl : l.stackTraces = false) {r : go_R} {x1 : Int32} {v : go_V} (h : f_L_acted x1 v = some r) : Ca l G y_L_acted (.codeWith y_L_acted c_L_acted 4 (some .int) [(0, 9, 12, 13)] :: go_TT) (rmD 1 1) 1 ad [.ref (ad (0)), .int x1, .ref (ad (119))] v r := by
  unfold f_L_acted at h
  refine go_bodyX (own := RL) (by decide) rfl (Nat.le_of_ble_eq_true rfl) ?_
  show Go l G M_L_acted go_Ex0 (go_E G ad 1 r 1 6) ad v [(0, .ref (ad (0))), (1, .int x1), (2, .ref (ad (119)))] 0 [] 0 0
  refine go_aload_n (d_L_acted 0 rfl) rfl rfl ?_
  refine go_iconst (x := (0 : Int32)) (d_L_acted 1 rfl) (by decide) ?_
  refine go_aload_n (d_L_acted 2 rfl) rfl rfl ?_
  refine go_iload_n (d_L_acted 3 rfl) rfl rfl ?_
  obtain ⟨r_1, o_2, h⟩ := bd_some h
  rcases br_some h with ⟨z_3, h⟩ | ⟨z_3, h⟩
  · refine go_cV (As := [.int x1]) (rest := [.int ((0 : Int32)), .ref (ad (119))]) (st2 := [.int (r_1.2.1), .int ((0 : Int32)), .ref (ad (119))]) (c2 := 1) (s2 := 6) rfl rfl rfl rfl (Ca_S_acted hl o_2)  (d_L_acted 4 rfl) cw_L_74 ⟨w_528, w_529⟩ rfl (by decide) rfl ⟨by decide, by decide⟩ rfl (Nat.le_of_ble_eq_true rfl) ⟨by decide, by decide⟩ (fun _ => ?_) (fun q => absurd (Nat.eq_of_beq_eq_true z_3) q)
    refine go_i2l (d_L_acted 7 rfl) ?_
    obtain ⟨g_4, h⟩ := gd_some h
    obtain ⟨v_5, ev_5, h⟩ := ln_some h
    refine go_last (y := r_1.2.1) (d_L_acted 8 rfl) rfl g_4 ?_
    rw [← ev_5]
    refine go_goto (tgt := 15) (d_L_acted 9 rfl) (by decide) ?_
    refine go_iconst (x := (0 : Int32)) (d_L_acted 15 rfl) (by decide) ?_
    exact go_iret (d_L_acted 16 rfl) rfl rfl (Option.some.inj h) (by decide) (by decide)
  rcases br_some h with ⟨z_7, h⟩ | ⟨z_7, h⟩
  · refine go_cV (As := [.int x1]) (rest := [.int ((0 : Int32)), .ref (ad (119))]) (st2 := [.int (r_1.2.1), .int ((0 : Int32)), .ref (ad (119))]) (c2 := 1) (s2 := 6) rfl rfl rfl rfl (Ca_S_acted hl o_2)  (d_L_acted 4 rfl) cw_L_74 ⟨w_528, w_529⟩ rfl (by decide) rfl ⟨by decide, by decide⟩ rfl (Nat.le_of_ble_eq_true rfl) ⟨by decide, by decide⟩ (fun q => absurd q (Nat.ne_of_beq_eq_false z_3)) (fun _ => ?_)
    rw [Nat.eq_of_beq_eq_true z_7]
    refine gx_catch [] ⟨0, 9, 12, 13⟩ [] rfl (fun y hy => nomatch hy) rfl (by decide) w_182 w_193 (fun q_6 => ?_)
    refine go_astore_n (lv' := [(0, .ref (ad (0))), (1, .int x1), (2, .ref (ad (119))), (3, .ref q_6)]) (d_L_acted 12 rfl) rfl (by decide) rfl ?_
    refine go_iconst (x := (1 : Int32)) (d_L_acted 13 rfl) (by decide) ?_
    exact go_iret (d_L_acted 14 rfl) rfl rfl (Option.some.inj h) (by decide) (by decide)
  cases h
abbrev M_L_count : go_M := (c_L_count, 4, (some .int), RL, tableOf [(0, 9, 12, 13)], rmD 1 1)
def f_L_count (x1 : Int32) (v : go_V) : Option go_R := bd (f_S_count x1 v) (fun r_1 => br (Nat.beq r_1.1 0) (gd (go_in (0 : Int32) 1) (ln (u2 r_1.2.2.2 119 (0 : Int32).toNatClampNeg r_1.2.1) (fun v_5 => some (0, (0 : Int32), 0, v_5)))) (br (Nat.beq r_1.1 1) (some (0, (1 : Int32), 0, r_1.2.2.2)) (none)))
set_option maxHeartbeats 4000000 in
set_option maxRecDepth 100000 in
theorem Ca_L_count {l : Launch} {G : go_G} {ad : Nat → Nat} (hl : l.stackTraces = false) {r : go_R} {x1 : Int32} {v : go_V} (h : f_L_count x1 v = some r) : Ca l G y_L_count (.codeWith y_L_count c_L_count 4 (some .int) [(0, 9, 12, 13)] :: go_TT) (rmD 1 1) 1 ad [.ref (ad (0)), .int x1, .ref (ad (119))] v r := by
  unfold f_L_count at h
  refine go_bodyX (own := RL) (by decide) rfl (Nat.le_of_ble_eq_true rfl) ?_
  show Go l G M_L_count go_Ex0 (go_E G ad 1 r 1 6) ad v [(0, .ref (ad (0))), (1, .int x1), (2, .ref (ad (119)))] 0 [] 0 0
  refine go_aload_n (d_L_count 0 rfl) rfl rfl ?_
  refine go_iconst (x := (0 : Int32)) (d_L_count 1 rfl) (by decide) ?_
  refine go_aload_n (d_L_count 2 rfl) rfl rfl ?_
  refine go_iload_n (d_L_count 3 rfl) rfl rfl ?_
  obtain ⟨r_1, o_2, h⟩ := bd_some h
  rcases br_some h with ⟨z_3, h⟩ | ⟨z_3, h⟩
  · refine go_cV (As := [.int x1]) (rest := [.int ((0 : Int32)), .ref (ad (119))]) (st2 := [.int (r_1.2.1), .int ((0 : Int32)), .ref (ad (119))]) (c2 := 1) (s2 := 6) rfl rfl rfl rfl (Ca_S_count hl o_2)  (d_L_count 4 rfl) cw_L_77 ⟨w_536, w_537⟩ rfl (by decide) rfl ⟨by decide, by decide⟩ rfl (Nat.le_of_ble_eq_true rfl) ⟨by decide, by decide⟩ (fun _ => ?_) (fun q => absurd (Nat.eq_of_beq_eq_true z_3) q)
    refine go_i2l (d_L_count 7 rfl) ?_
    obtain ⟨g_4, h⟩ := gd_some h
    obtain ⟨v_5, ev_5, h⟩ := ln_some h
    refine go_last (y := r_1.2.1) (d_L_count 8 rfl) rfl g_4 ?_
    rw [← ev_5]
    refine go_goto (tgt := 15) (d_L_count 9 rfl) (by decide) ?_
    refine go_iconst (x := (0 : Int32)) (d_L_count 15 rfl) (by decide) ?_
    exact go_iret (d_L_count 16 rfl) rfl rfl (Option.some.inj h) (by decide) (by decide)
  rcases br_some h with ⟨z_7, h⟩ | ⟨z_7, h⟩
  · refine go_cV (As := [.int x1]) (rest := [.int ((0 : Int32)), .ref (ad (119))]) (st2 := [.int (r_1.2.1), .int ((0 : Int32)), .ref (ad (119))]) (c2 := 1) (s2 := 6) rfl rfl rfl rfl (Ca_S_count hl o_2)  (d_L_count 4 rfl) cw_L_77 ⟨w_536, w_537⟩ rfl (by decide) rfl ⟨by decide, by decide⟩ rfl (Nat.le_of_ble_eq_true rfl) ⟨by decide, by decide⟩ (fun q => absurd q (Nat.ne_of_beq_eq_false z_3)) (fun _ => ?_)
    rw [Nat.eq_of_beq_eq_true z_7]
    refine gx_catch [] ⟨0, 9, 12, 13⟩ [] rfl (fun y hy => nomatch hy) rfl (by decide) w_182 w_193 (fun q_6 => ?_)
    refine go_astore_n (lv' := [(0, .ref (ad (0))), (1, .int x1), (2, .ref (ad (119))), (3, .ref q_6)]) (d_L_count 12 rfl) rfl (by decide) rfl ?_
    refine go_iconst (x := (1 : Int32)) (d_L_count 13 rfl) (by decide) ?_
    exact go_iret (d_L_count 14 rfl) rfl rfl (Option.some.inj h) (by decide) (by decide)
  cases h
end
section
/-! RULES OF THE LAW'S OWN BODY: its script, its end -/
def go_ExL (b L : Nat) (xs : Nat → Int32) : State → (Nat → Prop) → Prop := fun s A => (∀ q, A q → s.heap.size ≤ q) ∧ va_X b L xs s s.heap ∧ b < s.heap.size
def go_EnL (b : Nat) : go_En := fun below args s _ t => args = #[Value.ref b] → lw_Z below #[Value.ref b] s t
abbrev M_L_law : go_M := (c_L_law, 7, some .boolean, RL, [], room_1)
section GoLaw
variable {l : Launch} {G : go_G} {ad : Nat → Nat} {v : go_V} {lv : List (Nat × Value)} {pc : Nat} {st : List Value} {cells slots b L : Nat} {xs : Nat → Int32}
theorem go_slen (hd : decode c_L_law pc = .ok (.arraylength, 1)) (kk : Go l G M_L_law (go_ExL b L xs) (go_EnL b) ad v lv (pc + 1) (.int (Int32.ofNat L) :: st) cells slots) : Go l G M_L_law (go_ExL b L xs) (go_EnL b) ad v lv pc (.ref b :: st) cells slots := fun p e s m args below meth c A H locs ls C =>
  va_slen C.1.1 C.1.2.1 C.2.1.2.1 C.2.1.2.2 (fun q => absurd (C.2.1.1 _ q) (Nat.not_le.mpr C.2.1.2.2)) C.2.2.2.2.2.2.1 hd (kk p e s m args below meth c A H locs ls C)
theorem go_sld {x : Int32} (hd : decode c_L_law pc = .ok (.iaload, 1)) (hi : go_in x L = true) (kk : Go l G M_L_law (go_ExL b L xs) (go_EnL b) ad v lv (pc + 1) (.int (xs x.toNatClampNeg) :: st) cells slots) : Go l G M_L_law (go_ExL b L xs) (go_EnL b) ad v lv pc (.int x :: .ref b :: st) cells slots := fun p e s m args below meth c A H locs ls C =>
  va_sld C.1.1 C.1.2.1 C.2.1.2.1 C.2.1.2.2 (fun q => absurd (C.2.1.1 _ q) (Nat.not_le.mpr C.2.1.2.2)) C.2.2.2.2.2.2.1 (go_in_vp hi) hd (kk p e s m args below meth c A H locs ls C)
theorem go_lend (hd : decode c_L_law pc = .ok (.ireturn, 1)) (hc : cells ≤ 621509) (hs : slots ≤ 7231577) : Go l G M_L_law (go_ExL b L xs) (go_EnL b) ad v lv pc [.int 1] cells slots := by
  intro p e s m args below meth c A H locs ls C
  by_cases ha : args = #[Value.ref b]
  · subst ha
    refine va_forget (fun q hq => C.2.1.1 _ (C.2.2.2.2.2.2.1.2.2 q hq)) ?_
    refine W.widen hc hs ?_
    intro T hT X
    obtain ⟨t, h1, h2⟩ := lw_ret (b := b) C.1.1 C.1.2.1 C.1.2.2.2.1 C.1.2.2.2.2.2.2.1 hd T hT X
    exact ⟨t, h1, fun _ => h2⟩
  · exact fun T hT X => ⟨_, Steps.refl _, fun q => absurd q ha⟩
end GoLaw
end
