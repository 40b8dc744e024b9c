/-! what the Statement gives of the start (wip/whole/startgen.py) -/
theorem w_43 : Cond.instantiable RS 14 ∈ go_TT := go_tt 43 (by decide +kernel) rfl
theorem w_541 : Cond.instantiable RM 27 ∈ go_TT := go_tt 541 (by decide +kernel) rfl
theorem w_756 : Cond.arrayClass .long ∈ go_TT := go_tt 756 (by decide +kernel) rfl

set_option maxHeartbeats 4000000 in
set_option maxRecDepth 100000 in
theorem go_tx_of {s : State} {b : Nat} (hts : ∀ w ∈ lw_tbl, w.before #[Value.ref b] s = true) (hgv : (Jvm.Cond.and given_1 narrow_1).before #[Value.ref b] s = true) : ∀ q ∈ go_tx, ∃ sa, vk_R q.1 q.2.1 q.2.2 sa s := by
  have hs := flat_of_before _ hgv
  have one : ∀ (k : Nat) (tx : String), (Cond.stringRef RS k tx).before #[Value.ref b] s = true → (Cond.exactly (.string RS k) "java/lang/String").before #[Value.ref b] s = true → ∃ sa, vk_R RS k tx sa s := by
    intro k tx h1 h2
    obtain ⟨a2, c, cA, kA, q1, -⟩ := Cond.exactly_spec (args := #[Value.ref b]) (first := s) (o := none) (s := s) (idx := []) (t := .string RS k) (cls := "java/lang/String") h2
    exact ⟨a2, vk_R.of h1 q1⟩
  unfold go_tx
  intro q hq
  simp only [List.mem_cons, List.not_mem_nil, or_false] at hq
  rcases hq with rfl | rfl | rfl | rfl | rfl | rfl | rfl | rfl | rfl | rfl | rfl | rfl | rfl | rfl | rfl | rfl | rfl | rfl
  · exact one _ _ (hts (.stringRef RS 199 "no such step") (List.mem_of_getElem? (i := 233) (by decide +kernel))) (hs _ (by decide +kernel))
  · exact one _ _ (hts (.stringRef RS 201 "no such skill") (List.mem_of_getElem? (i := 263) (by decide +kernel))) (hs _ (by decide +kernel))
  · exact one _ _ (hts (.stringRef RS 205 "a number is outside its range") (List.mem_of_getElem? (i := 276) (by decide +kernel))) (hs _ (by decide +kernel))
  · exact one _ _ (hts (.stringRef RS 56 "an open incident is above this step") (List.mem_of_getElem? (i := 304) (by decide +kernel))) (hs _ (by decide +kernel))
  · exact one _ _ (hts (.stringRef RS 67 "no such kind") (List.mem_of_getElem? (i := 319) (by decide +kernel))) (hs _ (by decide +kernel))
  · exact one _ _ (hts (.stringRef RS 82 "no room for one more trigger") (List.mem_of_getElem? (i := 334) (by decide +kernel))) (hs _ (by decide +kernel))
  · exact one _ _ (hts (.stringRef RS 95 "no room for one more incident") (List.mem_of_getElem? (i := 356) (by decide +kernel))) (hs _ (by decide +kernel))
  · exact one _ _ (hts (.stringRef RS 210 "no such incident") (List.mem_of_getElem? (i := 368) (by decide +kernel))) (hs _ (by decide +kernel))
  · exact one _ _ (hts (.stringRef RS 208 "the incident is closed") (List.mem_of_getElem? (i := 372) (by decide +kernel))) (hs _ (by decide +kernel))
  · exact one _ _ (hts (.stringRef RS 145 "the incident's step is not above this one") (List.mem_of_getElem? (i := 447) (by decide +kernel))) (hs _ (by decide +kernel))
  · exact one _ _ (hts (.stringRef RS 157 "no room for one more unit") (List.mem_of_getElem? (i := 478) (by decide +kernel))) (hs _ (by decide +kernel))
  · exact one _ _ (hts (.stringRef RS 212 "no such unit") (List.mem_of_getElem? (i := 490) (by decide +kernel))) (hs _ (by decide +kernel))
  · exact one _ _ (hts (.stringRef RS 170 "the unit is not free") (List.mem_of_getElem? (i := 492) (by decide +kernel))) (hs _ (by decide +kernel))
  · exact one _ _ (hts (.stringRef RS 175 "the unit is not under way") (List.mem_of_getElem? (i := 500) (by decide +kernel))) (hs _ (by decide +kernel))
  · exact one _ _ (hts (.stringRef RS 187 "no such thing is told of an incident") (List.mem_of_getElem? (i := 515) (by decide +kernel))) (hs _ (by decide +kernel))
  · exact one _ _ (hts (.stringRef RS 189 "no such thing is told of a unit") (List.mem_of_getElem? (i := 523) (by decide +kernel))) (hs _ (by decide +kernel))
  · exact one _ _ (hts (.stringRef RS 191 "no such trigger") (List.mem_of_getElem? (i := 531) (by decide +kernel))) (hs _ (by decide +kernel))
  · exact one _ _ (hts (.stringRef RS 197 "no such thing is counted") (List.mem_of_getElem? (i := 539) (by decide +kernel))) (hs _ (by decide +kernel))
set_option maxHeartbeats 4000000 in
set_option maxRecDepth 100000 in
theorem go_nc_of {s : State} {b : Nat} (hgv : (Jvm.Cond.and given_1 narrow_1).before #[Value.ref b] s = true) : ∀ q ∈ go_nc, va_Nc q.1 q.2 s := by
  have hs := flat_of_before _ hgv
  unfold go_nc
  intro q hq
  simp only [List.mem_cons, List.not_mem_nil, or_false] at hq
  rcases hq with rfl | rfl | rfl | rfl | rfl | rfl | rfl | rfl | rfl | rfl | rfl | rfl
  · exact va_Nc.of (args := #[Value.ref b]) (hs _ (by decide +kernel))
  · exact va_Nc.of (args := #[Value.ref b]) (hs _ (by decide +kernel))
  · exact va_Nc.of (args := #[Value.ref b]) (hs _ (by decide +kernel))
  · exact va_Nc.of (args := #[Value.ref b]) (hs _ (by decide +kernel))
  · exact va_Nc.of (args := #[Value.ref b]) (hs _ (by decide +kernel))
  · exact va_Nc.of (args := #[Value.ref b]) (hs _ (by decide +kernel))
  · exact va_Nc.of (args := #[Value.ref b]) (hs _ (by decide +kernel))
  · exact va_Nc.of (args := #[Value.ref b]) (hs _ (by decide +kernel))
  · exact va_Nc.of (args := #[Value.ref b]) (hs _ (by decide +kernel))
  · exact va_Nc.of (args := #[Value.ref b]) (hs _ (by decide +kernel))
  · exact va_Nc.of (args := #[Value.ref b]) (hs _ (by decide +kernel))
  · exact va_Nc.of (args := #[Value.ref b]) (hs _ (by decide +kernel))
set_option maxHeartbeats 4000000 in
set_option maxRecDepth 100000 in
theorem go_start {s : State} {b : Nat} (hts : ∀ w ∈ lw_tbl, w.before #[Value.ref b] s = true) (hgv : (Jvm.Cond.and given_1 narrow_1).before #[Value.ref b] s = true) : ∃ G : go_G, go_K G go_tx go_nc (fun q => s.heap.size ≤ q) s ∧ go_ExS s := by
  have hs := flat_of_before _ hgv
  have hA : ∀ a : Nat, a < s.heap.size → ¬ s.heap.size ≤ a := fun a h => Nat.not_le.mpr h
  have htt : ∀ w ∈ go_TT, w.before #[Value.ref b] s = true := fun w h => hts w (List.mem_filter.mp h).1
  obtain ⟨c0, i0, k0⟩ := u_known (C := RI) (T := TI) (N := 8) (n := 8) htt in_I (htt _ w_83)
  obtain ⟨c1, i1, k1⟩ := u_known (C := RT) (T := TT) (N := 5) (n := 5) htt in_T (htt _ w_58)
  obtain ⟨c2, i2, k2⟩ := u_known (C := RU) (T := TU) (N := 4) (n := 4) htt in_U (htt _ w_114)
  obtain ⟨c3, i3, k3⟩ := u_known (C := RS) (T := TS) (N := 14) (n := 14) htt in_S (htt _ w_43)
  obtain ⟨c4, i4, k4⟩ := u_known (C := RM) (T := TM) (N := 27) (n := 27) htt in_M (htt _ w_541)
  obtain ⟨a0, ka0, cm0, x01, x02, x03⟩ := Cond.arrayClass_spec (htt _ w_82)
  obtain ⟨a1, ka1, cm1, x11, x12, x13⟩ := Cond.arrayClass_spec (htt _ w_629)
  obtain ⟨a2, ka2, cm2, x21, x22, x23⟩ := Cond.arrayClass_spec (htt _ w_756)
  have o3 : va_AO RT s := va_AO.of (hts (.arrayOver (.object RT)) (List.mem_of_getElem? (i := 53) (by decide +kernel)))
  have o4 : va_AO RI s := va_AO.of (hts (.arrayOver (.object RI)) (List.mem_of_getElem? (i := 55) (by decide +kernel)))
  have o5 : va_AO RU s := va_AO.of (hts (.arrayOver (.object RU)) (List.mem_of_getElem? (i := 57) (by decide +kernel)))
  have o6 : (Cond.arrayOver (.array .int)).before #[Value.ref b] s = true := hts (.arrayOver (.array .int)) (List.mem_of_getElem? (i := 51) (by decide +kernel))
  obtain ⟨cm3, a3, ka3, x31, x32, x33, x34, x35⟩ := Cond.arrayOver_spec o3
  obtain ⟨cm4, a4, ka4, x41, x42, x43, x44, x45⟩ := Cond.arrayOver_spec o4
  obtain ⟨cm5, a5, ka5, x51, x52, x53, x54, x55⟩ := Cond.arrayOver_spec o5
  obtain ⟨cm6, a6, ka6, x61, x63, x64, x65⟩ := Cond.arrayOver_specA o6
  obtain ⟨tL, hL1, hL2⟩ := va_Tof (args := #[Value.ref b]) (tm := .static RS "LEAST_WHAT" "[I") (ty := .int) (N := 4) (f := go_least) (A := fun q => s.heap.size ≤ q) (by decide) (hs _ (by decide +kernel)) (va_eqt (hs (.eq (.length (.static RS "LEAST_WHAT" "[I")) (.int 4)) (by decide +kernel))) (fun j hj => by
    match j, hj with
    | 0, _ => exact va_eqt (hs (.eq (.elem (.static RS "LEAST_WHAT" "[I") (.int 0)) (.int 0)) (by decide +kernel))
    | 1, _ => exact va_eqt (hs (.eq (.elem (.static RS "LEAST_WHAT" "[I") (.int 1)) (.int 1)) (by decide +kernel))
    | 2, _ => exact va_eqt (hs (.eq (.elem (.static RS "LEAST_WHAT" "[I") (.int 2)) (.int 1)) (by decide +kernel))
    | 3, _ => exact va_eqt (hs (.eq (.elem (.static RS "LEAST_WHAT" "[I") (.int 3)) (.int 0)) (by decide +kernel))
    | j + 4, hj => exact absurd hj (by omega)) hA
  obtain ⟨tG, hG1, hG2⟩ := va_Tof (args := #[Value.ref b]) (tm := .static RS "GREATEST_WHAT" "[I") (ty := .int) (N := 4) (f := go_great) (A := fun q => s.heap.size ≤ q) (by decide) (hs _ (by decide +kernel)) (va_eqt (hs (.eq (.length (.static RS "GREATEST_WHAT" "[I")) (.int 4)) (by decide +kernel))) (fun j hj => by
    match j, hj with
    | 0, _ => exact va_eqt (hs (.eq (.elem (.static RS "GREATEST_WHAT" "[I") (.int 0)) (.int 99)) (by decide +kernel))
    | 1, _ => exact va_eqt (hs (.eq (.elem (.static RS "GREATEST_WHAT" "[I") (.int 1)) (.int 1000)) (by decide +kernel))
    | 2, _ => exact va_eqt (hs (.eq (.elem (.static RS "GREATEST_WHAT" "[I") (.int 2)) (.int 100000)) (by decide +kernel))
    | 3, _ => exact va_eqt (hs (.eq (.elem (.static RS "GREATEST_WHAT" "[I") (.int 3)) (.int 9)) (by decide +kernel))
    | j + 4, hj => exact absurd hj (by omega)) hA
  have hi : (Cond.initialized RS).before #[Value.ref b] s = true := htt _ w_29
  have hiT : (Cond.initialized "java/lang/Throwable").before #[Value.ref b] s = true := hts (.initialized "java/lang/Throwable") (List.mem_of_getElem? (i := 34) (by decide +kernel))
  refine ⟨((fun k => match k with | 0 => c0 | 1 => c1 | 2 => c2 | 3 => c3 | _ => c4, fun k => match k with | 0 => i0 | 1 => i1 | 2 => i2 | 3 => i3 | _ => i4), (fun k => match k with | 0 => a0 | 1 => a1 | 2 => a2 | 3 => a3 | 4 => a4 | 5 => a5 | _ => a6), tL, tG), ⟨⟨?_, ?_⟩, ?_, ?_, ?_, hL2, ?_, hG2, ?_, go_tx_of hts hgv, go_nc_of hgv⟩, o3, o4, o5, o6⟩
  · intro k q hq
    match k, hq with
    | 0, hq => cases hq; exact k0
    | 1, hq => cases hq; exact k1
    | 2, hq => cases hq; exact k2
    | 3, hq => cases hq; exact k3
    | 4, hq => cases hq; exact k4
    | k + 5, hq => simp [go_cl] at hq
  · intro k q hq
    match k, hq with
    | 0, hq => cases hq; exact ⟨fun n z => ⟨fun k h => (by cases h), ka0, x02, cm0, x03⟩, x01⟩
    | 1, hq => cases hq; exact ⟨fun n z => ⟨fun k h => (by cases h), ka1, x12, cm1, x13⟩, x11⟩
    | 2, hq => cases hq; exact ⟨fun n z => ⟨fun k h => (by cases h), ka2, x22, cm2, x23⟩, x21⟩
    | 3, hq => cases hq; exact ⟨fun n z => ⟨fun k h => (by cases h), ka3, x33, cm3, x34⟩, ka3, cm3, x33, x34, x31, x35⟩
    | 4, hq => cases hq; exact ⟨fun n z => ⟨fun k h => (by cases h), ka4, x43, cm4, x44⟩, ka4, cm4, x43, x44, x41, x45⟩
    | 5, hq => cases hq; exact ⟨fun n z => ⟨fun k h => (by cases h), ka5, x53, cm5, x54⟩, ka5, cm5, x53, x54, x51, x55⟩
    | 6, hq => cases hq; exact ⟨fun n z => ⟨fun k h => (by cases h), ka6, x63, cm6, x64⟩, x65⟩
    | k + 7, hq => simp [go_tys] at hq
  · exact vx_Zqof (hts (.laysStatic Bundle.tN "UNASSIGNED_STACK" Bundle.steD) (List.mem_of_getElem? (i := 218) (by decide +kernel))) hiT (hs _ (by decide +kernel)) hA
  · exact vx_Zqof (hts (.laysStatic Bundle.tN "SUPPRESSED_SENTINEL" Bundle.listD) (List.mem_of_getElem? (i := 220) (by decide +kernel))) hiT (hs _ (by decide +kernel)) hA
  · exact va_Zof (hts (.laysStatic RS "LEAST_WHAT" "[I") (List.mem_of_getElem? (i := 321) (by decide +kernel))) hi hL1 hA
  · exact va_Zof (hts (.laysStatic RS "GREATEST_WHAT" "[I") (List.mem_of_getElem? (i := 323) (by decide +kernel))) hi hG1 hA
  · intro w hw
    exact va_Nw.of (go_nk_tab (List.mem_filter.mp hw).2) (hts w (List.mem_filter.mp hw).1)
