/-! read back by wip/whole/dec.py: a function a method, and the rows that tie them -/
abbrev M_T_set : go_M := (c_T_set, 5, none, RT, [], rmD 0 0)
def f_T_set (k0 : Nat) (x1 : Int32) (x2 : Int32) (x3 : Int32) (x4 : Int32) (v : go_V) : Option go_R := gd (Nat.beq (go_cls (k0)) 1) (ln (u2 v (k0) 0 x1) (fun v_2 => ln (u2 v_2 (k0) 1 x2) (fun v_3 => ln (u2 v_3 (k0) 2 x3) (fun v_4 => ln (u2 v_4 (k0) 3 x4) (fun v_5 => some (0, 0, 0, v_5))))))
set_option maxHeartbeats 4000000 in
set_option maxRecDepth 100000 in
theorem Ca_T_set {l : Launch} {G : go_G} {ad : Nat → Nat} (hl : l.stackTraces = false) {r : go_R} {k0 : Nat} {x1 : Int32} {x2 : Int32} {x3 : Int32} {x4 : Int32} {v : go_V} (h : f_T_set k0 x1 x2 x3 x4 v = some r) : Ca l G y_T_set (.code y_T_set c_T_set 5 none :: go_TT) (rmD 0 0) 0 ad [.ref (ad (k0)), .int x1, .int x2, .int x3, .int x4] v r := by
  unfold f_T_set at h
  refine go_body (own := RT) (by decide) rfl (Nat.le_of_ble_eq_true rfl) ?_
  show Go l G M_T_set go_Ex0 (go_E G ad 0 r 0 0) ad v [(0, .ref (ad (k0))), (1, .int x1), (2, .int x2), (3, .int x3), (4, .int x4)] 0 [] 0 0
  refine go_aload_n (d_T_set 0 rfl) rfl rfl ?_
  refine go_iload_n (d_T_set 1 rfl) rfl rfl ?_
  obtain ⟨g_1, h⟩ := gd_some h
  obtain ⟨v_2, ev_2, h⟩ := ln_some h
  refine go_putI (x := x1) (d_T_set 2 rfl) fp_T_7 (Nat.eq_of_beq_eq_true g_1) rfl rfl rfl ?_
  rw [← ev_2]
  refine go_aload_n (d_T_set 5 rfl) rfl rfl ?_
  refine go_iload_n (d_T_set 6 rfl) rfl rfl ?_
  obtain ⟨v_3, ev_3, h⟩ := ln_some h
  refine go_putI (x := x2) (d_T_set 7 rfl) fp_T_13 (Nat.eq_of_beq_eq_true g_1) rfl rfl rfl ?_
  rw [← ev_3]
  refine go_aload_n (d_T_set 10 rfl) rfl rfl ?_
  refine go_iload_n (d_T_set 11 rfl) rfl rfl ?_
  obtain ⟨v_4, ev_4, h⟩ := ln_some h
  refine go_putI (x := x3) (d_T_set 12 rfl) fp_T_16 (Nat.eq_of_beq_eq_true g_1) rfl rfl rfl ?_
  rw [← ev_4]
  refine go_aload_n (d_T_set 15 rfl) rfl rfl ?_
  refine go_iload (d_T_set 16 rfl) rfl ?_
  obtain ⟨v_5, ev_5, h⟩ := ln_some h
  refine go_putI (x := x4) (d_T_set 18 rfl) fp_T_19 (Nat.eq_of_beq_eq_true g_1) rfl rfl rfl ?_
  rw [← ev_5]
  exact go_vret (d_T_set 21 rfl) rfl (Option.some.inj h) (by decide) (by decide)
abbrev M_T_isFor : go_M := (c_T_isFor, 4, (some .boolean), RT, [], rmD 0 0)
def f_T_isFor_28  (k0 : Nat) (x1 : Int32) (x2 : Int32) (x3 : Int32) (v : go_V) : Option go_R := some (0, (0 : Int32), 0, v)
set_option maxHeartbeats 4000000 in
set_option maxRecDepth 100000 in
theorem b_T_isFor_28 {l : Launch} {G : go_G} {ad : Nat → Nat} (hl : l.stackTraces = false) {r : go_R}  (k0 : Nat) (x1 : Int32) (x2 : Int32) (x3 : Int32) (v : go_V) (h : f_T_isFor_28  k0 x1 x2 x3 v = some r) : Go l G M_T_isFor go_Ex0 (go_E G ad 1 r 0 0) ad v [(0, .ref (ad (k0))), (1, .int x1), (2, .int x2), (3, .int x3)] 28 [] 0 0 := by
  unfold f_T_isFor_28 at h
  refine go_iconst (x := (0 : Int32)) (d_T_isFor 28 rfl) (by decide) ?_
  exact go_iret (d_T_isFor 29 rfl) rfl (by decide) (Option.some.inj h) (by decide) (by decide)
def f_T_isFor (k0 : Nat) (x1 : Int32) (x2 : Int32) (x3 : Int32) (v : go_V) : Option go_R := gd (Nat.beq (go_cls (k0)) 1) (br (decide ((v (k0) 0) = x1)) (br (decide ((v (k0) 1) < x2)) (f_T_isFor_28  (k0) (x1) (x2) (x3) (v)) (br (decide (x3 < (v (k0) 1))) (f_T_isFor_28  (k0) (x1) (x2) (x3) (v)) (some (0, (1 : Int32), 0, v)))) (f_T_isFor_28  (k0) (x1) (x2) (x3) (v)))
set_option maxHeartbeats 4000000 in
set_option maxRecDepth 100000 in
theorem Ca_T_isFor {l : Launch} {G : go_G} {ad : Nat → Nat} (hl : l.stackTraces = false) {r : go_R} {k0 : Nat} {x1 : Int32} {x2 : Int32} {x3 : Int32} {v : go_V} (h : f_T_isFor k0 x1 x2 x3 v = some r) : Ca l G y_T_isFor (.code y_T_isFor c_T_isFor 4 (some .boolean) :: go_TT) (rmD 0 0) 1 ad [.ref (ad (k0)), .int x1, .int x2, .int x3] v r := by
  unfold f_T_isFor at h
  refine go_body (own := RT) (by decide) rfl (Nat.le_of_ble_eq_true rfl) ?_
  show Go l G M_T_isFor go_Ex0 (go_E G ad 1 r 0 0) ad v [(0, .ref (ad (k0))), (1, .int x1), (2, .int x2), (3, .int x3)] 0 [] 0 0
  refine go_aload_n (d_T_isFor 0 rfl) rfl rfl ?_
  obtain ⟨g_1, h⟩ := gd_some h
  refine go_getI (d_T_isFor 1 rfl) fl_T_7 (Nat.eq_of_beq_eq_true g_1) rfl ?_
  refine go_iload_n (d_T_isFor 4 rfl) rfl rfl ?_
  rcases br_some h with ⟨c_2, h⟩ | ⟨c_2, h⟩
  · refine go_icmp_ne (tgt := 28) (d_T_isFor 5 rfl) (by decide) (fun q => absurd (of_decide_eq_true c_2) q) (fun _ => ?_)
    refine go_aload_n (d_T_isFor 8 rfl) rfl rfl ?_
    refine go_getI (d_T_isFor 9 rfl) fl_T_13 (Nat.eq_of_beq_eq_true g_1) rfl ?_
    refine go_iload_n (d_T_isFor 12 rfl) rfl rfl ?_
    rcases br_some h with ⟨c_3, h⟩ | ⟨c_3, h⟩
    · refine go_icmp_lt (tgt := 28) (d_T_isFor 13 rfl) (by decide) (fun _ => ?_) (fun q => absurd (of_decide_eq_true c_3) q)
      exact b_T_isFor_28 hl  (k0) (x1) (x2) (x3) (v) h
    · refine go_icmp_lt (tgt := 28) (d_T_isFor 13 rfl) (by decide) (fun q => absurd q (of_decide_eq_false c_3)) (fun _ => ?_)
      refine go_aload_n (d_T_isFor 16 rfl) rfl rfl ?_
      refine go_getI (d_T_isFor 17 rfl) fl_T_13 (Nat.eq_of_beq_eq_true g_1) rfl ?_
      refine go_iload_n (d_T_isFor 20 rfl) rfl rfl ?_
      rcases br_some h with ⟨c_4, h⟩ | ⟨c_4, h⟩
      · refine go_icmp_gt (tgt := 28) (d_T_isFor 21 rfl) (by decide) (fun _ => ?_) (fun q => absurd (of_decide_eq_true c_4) q)
        exact b_T_isFor_28 hl  (k0) (x1) (x2) (x3) (v) h
      · refine go_icmp_gt (tgt := 28) (d_T_isFor 21 rfl) (by decide) (fun q => absurd q (of_decide_eq_false c_4)) (fun _ => ?_)
        refine go_iconst (x := (1 : Int32)) (d_T_isFor 24 rfl) (by decide) ?_
        refine go_goto (tgt := 29) (d_T_isFor 25 rfl) (by decide) ?_
        exact go_iret (d_T_isFor 29 rfl) rfl (by decide) (Option.some.inj h) (by decide) (by decide)
  · refine go_icmp_ne (tgt := 28) (d_T_isFor 5 rfl) (by decide) (fun _ => ?_) (fun q => absurd q (of_decide_eq_false c_2))
    exact b_T_isFor_28 hl  (k0) (x1) (x2) (x3) (v) h
abbrev M_U_setFree : go_M := (c_U_setFree, 1, none, RU, [], rmD 0 0)
def f_U_setFree (k0 : Nat) (v : go_V) : Option go_R := gd (Nat.beq (go_cls (k0)) 2) (ln (u2 v (k0) 1 (0 : Int32)) (fun v_2 => ln (u2 v_2 (k0) 2 ((-1) : Int32)) (fun v_3 => ln (u2 v_3 (k0) 3 ((-1) : Int32)) (fun v_4 => some (0, 0, 0, v_4)))))
set_option maxHeartbeats 4000000 in
set_option maxRecDepth 100000 in
theorem Ca_U_setFree {l : Launch} {G : go_G} {ad : Nat → Nat} (hl : l.stackTraces = false) {r : go_R} {k0 : Nat} {v : go_V} (h : f_U_setFree k0 v = some r) : Ca l G y_U_setFree (.code y_U_setFree c_U_setFree 1 none :: go_TT) (rmD 0 0) 0 ad [.ref (ad (k0))] v r := by
  unfold f_U_setFree at h
  refine go_body (own := RU) (by decide) rfl (Nat.le_of_ble_eq_true rfl) ?_
  show Go l G M_U_setFree go_Ex0 (go_E G ad 0 r 0 0) ad v [(0, .ref (ad (k0)))] 0 [] 0 0
  refine go_aload_n (d_U_setFree 0 rfl) rfl rfl ?_
  refine go_iconst (x := (0 : Int32)) (d_U_setFree 1 rfl) (by decide) ?_
  obtain ⟨g_1, h⟩ := gd_some h
  obtain ⟨v_2, ev_2, h⟩ := ln_some h
  refine go_putI (x := (0 : Int32)) (d_U_setFree 2 rfl) fp_U_9 (Nat.eq_of_beq_eq_true g_1) rfl rfl rfl ?_
  rw [← ev_2]
  refine go_aload_n (d_U_setFree 5 rfl) rfl rfl ?_
  refine go_iconst (x := ((-1) : Int32)) (d_U_setFree 6 rfl) (by decide) ?_
  obtain ⟨v_3, ev_3, h⟩ := ln_some h
  refine go_putI (x := ((-1) : Int32)) (d_U_setFree 7 rfl) fp_U_15 (Nat.eq_of_beq_eq_true g_1) rfl rfl rfl ?_
  rw [← ev_3]
  refine go_aload_n (d_U_setFree 10 rfl) rfl rfl ?_
  refine go_iconst (x := ((-1) : Int32)) (d_U_setFree 11 rfl) (by decide) ?_
  obtain ⟨v_4, ev_4, h⟩ := ln_some h
  refine go_putI (x := ((-1) : Int32)) (d_U_setFree 12 rfl) fp_U_18 (Nat.eq_of_beq_eq_true g_1) rfl rfl rfl ?_
  rw [← ev_4]
  exact go_vret (d_U_setFree 15 rfl) rfl (Option.some.inj h) (by decide) (by decide)
abbrev M_U_isFor : go_M := (c_U_isFor, 3, (some .boolean), RU, [], rmD 0 0)
def f_U_isFor_20  (k0 : Nat) (x1 : Int32) (x2 : Int32) (v : go_V) : Option go_R := some (0, (0 : Int32), 0, v)
set_option maxHeartbeats 4000000 in
set_option maxRecDepth 100000 in
theorem b_U_isFor_20 {l : Launch} {G : go_G} {ad : Nat → Nat} (hl : l.stackTraces = false) {r : go_R}  (k0 : Nat) (x1 : Int32) (x2 : Int32) (v : go_V) (h : f_U_isFor_20  k0 x1 x2 v = some r) : Go l G M_U_isFor go_Ex0 (go_E G ad 1 r 0 0) ad v [(0, .ref (ad (k0))), (1, .int x1), (2, .int x2)] 20 [] 0 0 := by
  unfold f_U_isFor_20 at h
  refine go_iconst (x := (0 : Int32)) (d_U_isFor 20 rfl) (by decide) ?_
  exact go_iret (d_U_isFor 21 rfl) rfl (by decide) (Option.some.inj h) (by decide) (by decide)
def f_U_isFor (k0 : Nat) (x1 : Int32) (x2 : Int32) (v : go_V) : Option go_R := gd (Nat.beq (go_cls (k0)) 2) (br (decide ((v (k0) 2) = x1)) (br (decide ((v (k0) 0) = x2)) (some (0, (1 : Int32), 0, v)) (f_U_isFor_20  (k0) (x1) (x2) (v))) (f_U_isFor_20  (k0) (x1) (x2) (v)))
set_option maxHeartbeats 4000000 in
set_option maxRecDepth 100000 in
theorem Ca_U_isFor {l : Launch} {G : go_G} {ad : Nat → Nat} (hl : l.stackTraces = false) {r : go_R} {k0 : Nat} {x1 : Int32} {x2 : Int32} {v : go_V} (h : f_U_isFor k0 x1 x2 v = some r) : Ca l G y_U_isFor (.code y_U_isFor c_U_isFor 3 (some .boolean) :: go_TT) (rmD 0 0) 1 ad [.ref (ad (k0)), .int x1, .int x2] v r := by
  unfold f_U_isFor at h
  refine go_body (own := RU) (by decide) rfl (Nat.le_of_ble_eq_true rfl) ?_
  show Go l G M_U_isFor go_Ex0 (go_E G ad 1 r 0 0) ad v [(0, .ref (ad (k0))), (1, .int x1), (2, .int x2)] 0 [] 0 0
  refine go_aload_n (d_U_isFor 0 rfl) rfl rfl ?_
  obtain ⟨g_1, h⟩ := gd_some h
  refine go_getI (d_U_isFor 1 rfl) fl_U_15 (Nat.eq_of_beq_eq_true g_1) rfl ?_
  refine go_iload_n (d_U_isFor 4 rfl) rfl rfl ?_
  rcases br_some h with ⟨c_2, h⟩ | ⟨c_2, h⟩
  · refine go_icmp_ne (tgt := 20) (d_U_isFor 5 rfl) (by decide) (fun q => absurd (of_decide_eq_true c_2) q) (fun _ => ?_)
    refine go_aload_n (d_U_isFor 8 rfl) rfl rfl ?_
    refine go_getI (d_U_isFor 9 rfl) fl_U_21 (Nat.eq_of_beq_eq_true g_1) rfl ?_
    refine go_iload_n (d_U_isFor 12 rfl) rfl rfl ?_
    rcases br_some h with ⟨c_3, h⟩ | ⟨c_3, h⟩
    · refine go_icmp_ne (tgt := 20) (d_U_isFor 13 rfl) (by decide) (fun q => absurd (of_decide_eq_true c_3) q) (fun _ => ?_)
      refine go_iconst (x := (1 : Int32)) (d_U_isFor 16 rfl) (by decide) ?_
      refine go_goto (tgt := 21) (d_U_isFor 17 rfl) (by decide) ?_
      exact go_iret (d_U_isFor 21 rfl) rfl (by decide) (Option.some.inj h) (by decide) (by decide)
    · refine go_icmp_ne (tgt := 20) (d_U_isFor 13 rfl) (by decide) (fun _ => ?_) (fun q => absurd q (of_decide_eq_false c_3))
      exact b_U_isFor_20 hl  (k0) (x1) (x2) (v) h
  · refine go_icmp_ne (tgt := 20) (d_U_isFor 5 rfl) (by decide) (fun _ => ?_) (fun q => absurd q (of_decide_eq_false c_2))
    exact b_U_isFor_20 hl  (k0) (x1) (x2) (v) h
abbrev M_U_goesBackBefore : go_M := (c_U_goesBackBefore, 2, (some .boolean), RU, [], rmD 0 0)
def f_U_goesBackBefore (k0 : Nat) (k1 : Nat) (v : go_V) : Option go_R := gd (Nat.beq (go_cls (k0)) 2) (gd (Nat.beq (go_cls (k1)) 2) (br (decide ((v (k0) 1) = (v (k1) 1))) (br (decide ((v (k0) 3) < (v (k1) 3))) (some (0, (0 : Int32), 0, v)) (some (0, (1 : Int32), 0, v))) (br (decide ((v (k0) 1) = (1 : Int32))) (some (0, (1 : Int32), 0, v)) (some (0, (0 : Int32), 0, v)))))
set_option maxHeartbeats 4000000 in
set_option maxRecDepth 100000 in
theorem Ca_U_goesBackBefore {l : Launch} {G : go_G} {ad : Nat → Nat} (hl : l.stackTraces = false) {r : go_R} {k0 : Nat} {k1 : Nat} {v : go_V} (h : f_U_goesBackBefore k0 k1 v = some r) : Ca l G y_U_goesBackBefore (.code y_U_goesBackBefore c_U_goesBackBefore 2 (some .boolean) :: go_TT) (rmD 0 0) 1 ad [.ref (ad (k0)), .ref (ad (k1))] v r := by
  unfold f_U_goesBackBefore at h
  refine go_body (own := RU) (by decide) rfl (Nat.le_of_ble_eq_true rfl) ?_
  show Go l G M_U_goesBackBefore go_Ex0 (go_E G ad 1 r 0 0) ad v [(0, .ref (ad (k0))), (1, .ref (ad (k1)))] 0 [] 0 0
  refine go_aload_n (d_U_goesBackBefore 0 rfl) rfl rfl ?_
  obtain ⟨g_1, h⟩ := gd_some h
  refine go_getI (d_U_goesBackBefore 1 rfl) fl_U_9 (Nat.eq_of_beq_eq_true g_1) rfl ?_
  refine go_aload_n (d_U_goesBackBefore 4 rfl) rfl rfl ?_
  obtain ⟨g_2, h⟩ := gd_some h
  refine go_getI (d_U_goesBackBefore 5 rfl) fl_U_9 (Nat.eq_of_beq_eq_true g_2) rfl ?_
  rcases br_some h with ⟨c_3, h⟩ | ⟨c_3, h⟩
  · refine go_icmp_eq (tgt := 25) (d_U_goesBackBefore 8 rfl) (by decide) (fun _ => ?_) (fun q => absurd (of_decide_eq_true c_3) q)
    refine go_aload_n (d_U_goesBackBefore 25 rfl) rfl rfl ?_
    refine go_getI (d_U_goesBackBefore 26 rfl) fl_U_18 (Nat.eq_of_beq_eq_true g_1) rfl ?_
    refine go_aload_n (d_U_goesBackBefore 29 rfl) rfl rfl ?_
    refine go_getI (d_U_goesBackBefore 30 rfl) fl_U_18 (Nat.eq_of_beq_eq_true g_2) rfl ?_
    rcases br_some h with ⟨c_4, h⟩ | ⟨c_4, h⟩
    · refine go_icmp_lt (tgt := 40) (d_U_goesBackBefore 33 rfl) (by decide) (fun _ => ?_) (fun q => absurd (of_decide_eq_true c_4) q)
      refine go_iconst (x := (0 : Int32)) (d_U_goesBackBefore 40 rfl) (by decide) ?_
      exact go_iret (d_U_goesBackBefore 41 rfl) rfl (by decide) (Option.some.inj h) (by decide) (by decide)
    · refine go_icmp_lt (tgt := 40) (d_U_goesBackBefore 33 rfl) (by decide) (fun q => absurd q (of_decide_eq_false c_4)) (fun _ => ?_)
      refine go_iconst (x := (1 : Int32)) (d_U_goesBackBefore 36 rfl) (by decide) ?_
      refine go_goto (tgt := 41) (d_U_goesBackBefore 37 rfl) (by decide) ?_
      exact go_iret (d_U_goesBackBefore 41 rfl) rfl (by decide) (Option.some.inj h) (by decide) (by decide)
  · refine go_icmp_eq (tgt := 25) (d_U_goesBackBefore 8 rfl) (by decide) (fun q => absurd q (of_decide_eq_false c_3)) (fun _ => ?_)
    refine go_aload_n (d_U_goesBackBefore 11 rfl) rfl rfl ?_
    refine go_getI (d_U_goesBackBefore 12 rfl) fl_U_9 (Nat.eq_of_beq_eq_true g_1) rfl ?_
    refine go_iconst (x := (1 : Int32)) (d_U_goesBackBefore 15 rfl) (by decide) ?_
    rcases br_some h with ⟨c_5, h⟩ | ⟨c_5, h⟩
    · refine go_icmp_ne (tgt := 23) (d_U_goesBackBefore 16 rfl) (by decide) (fun q => absurd (of_decide_eq_true c_5) q) (fun _ => ?_)
      refine go_iconst (x := (1 : Int32)) (d_U_goesBackBefore 19 rfl) (by decide) ?_
      refine go_goto (tgt := 24) (d_U_goesBackBefore 20 rfl) (by decide) ?_
      exact go_iret (d_U_goesBackBefore 24 rfl) rfl (by decide) (Option.some.inj h) (by decide) (by decide)
    · refine go_icmp_ne (tgt := 23) (d_U_goesBackBefore 16 rfl) (by decide) (fun _ => ?_) (fun q => absurd q (of_decide_eq_false c_5))
      refine go_iconst (x := (0 : Int32)) (d_U_goesBackBefore 23 rfl) (by decide) ?_
      exact go_iret (d_U_goesBackBefore 24 rfl) rfl (by decide) (Option.some.inj h) (by decide) (by decide)
abbrev M_S_refuseUnknownStep : go_M := (c_S_refuseUnknownStep, 1, none, RS, [], rmD 0 1)
def f_S_refuseUnknownStep_10  (x0 : Int32) (v : go_V) : Option go_R := some (1, 0, 0, v)
set_option maxHeartbeats 4000000 in
set_option maxRecDepth 100000 in
theorem b_S_refuseUnknownStep_10 {l : Launch} {G : go_G} {ad : Nat → Nat} (hl : l.stackTraces = false) {r : go_R}  (x0 : Int32) (v : go_V) (h : f_S_refuseUnknownStep_10  x0 v = some r) : Go l G M_S_refuseUnknownStep go_Ex0 (go_E G ad 0 r 1 6) ad v [(0, .int x0)] 10 [] 0 0 := by
  unfold f_S_refuseUnknownStep_10 at h
  exact go_thr (text := "no such step") hl xs_65_69_1 (by decide +kernel) rfl rfl (d_S_refuseUnknownStep 10 rfl) (d_S_refuseUnknownStep 13 rfl) (d_S_refuseUnknownStep 14 rfl) (d_S_refuseUnknownStep 16 rfl) (d_S_refuseUnknownStep 19 rfl) ⟨by decide, Nat.le_of_ble_eq_true rfl, by decide, by decide⟩ (Option.some.inj h) (by decide) (by decide)
def f_S_refuseUnknownStep (x0 : Int32) (v : go_V) : Option go_R := br (decide (x0 < 0)) (f_S_refuseUnknownStep_10  (x0) (v)) (br (decide (x0 < (10 : Int32))) (some (0, 0, 0, v)) (f_S_refuseUnknownStep_10  (x0) (v)))
set_option maxHeartbeats 4000000 in
set_option maxRecDepth 100000 in
theorem Ca_S_refuseUnknownStep {l : Launch} {G : go_G} {ad : Nat → Nat} (hl : l.stackTraces = false) {r : go_R} {x0 : Int32} {v : go_V} (h : f_S_refuseUnknownStep x0 v = some r) : Ca l G y_S_refuseUnknownStep (.code y_S_refuseUnknownStep c_S_refuseUnknownStep 1 none :: go_TT) (rmD 0 1) 0 ad [.int x0] v r := by
  unfold f_S_refuseUnknownStep at h
  refine go_body (own := RS) (by decide) rfl (Nat.le_of_ble_eq_true rfl) ?_
  show Go l G M_S_refuseUnknownStep go_Ex0 (go_E G ad 0 r 1 6) ad v [(0, .int x0)] 0 [] 0 0
  refine go_iload_n (d_S_refuseUnknownStep 0 rfl) rfl rfl ?_
  rcases br_some h with ⟨c_1, h⟩ | ⟨c_1, h⟩
  · refine go_if_lt (tgt := 10) (d_S_refuseUnknownStep 1 rfl) (by decide) (fun _ => ?_) (fun q => absurd (of_decide_eq_true c_1) q)
    exact b_S_refuseUnknownStep_10 hl  (x0) (v) h
  · refine go_if_lt (tgt := 10) (d_S_refuseUnknownStep 1 rfl) (by decide) (fun q => absurd q (of_decide_eq_false c_1)) (fun _ => ?_)
    refine go_iload_n (d_S_refuseUnknownStep 4 rfl) rfl rfl ?_
    refine go_bipush (x := (10 : Int32)) (d_S_refuseUnknownStep 5 rfl) (by decide) ?_
    rcases br_some h with ⟨c_2, h⟩ | ⟨c_2, h⟩
    · refine go_icmp_lt (tgt := 20) (d_S_refuseUnknownStep 7 rfl) (by decide) (fun _ => ?_) (fun q => absurd (of_decide_eq_true c_2) q)
      exact go_vret (d_S_refuseUnknownStep 20 rfl) rfl (Option.some.inj h) (by decide) (by decide)
    · refine go_icmp_lt (tgt := 20) (d_S_refuseUnknownStep 7 rfl) (by decide) (fun q => absurd q (of_decide_eq_false c_2)) (fun _ => ?_)
      exact b_S_refuseUnknownStep_10 hl  (x0) (v) h
abbrev M_S_refuseUnknownSkill : go_M := (c_S_refuseUnknownSkill, 1, none, RS, [], rmD 0 1)
def f_S_refuseUnknownSkill_10  (x0 : Int32) (v : go_V) : Option go_R := some (1, 0, 0, v)
set_option maxHeartbeats 4000000 in
set_option maxRecDepth 100000 in
theorem b_S_refuseUnknownSkill_10 {l : Launch} {G : go_G} {ad : Nat → Nat} (hl : l.stackTraces = false) {r : go_R}  (x0 : Int32) (v : go_V) (h : f_S_refuseUnknownSkill_10  x0 v = some r) : Go l G M_S_refuseUnknownSkill go_Ex0 (go_E G ad 0 r 1 6) ad v [(0, .int x0)] 10 [] 0 0 := by
  unfold f_S_refuseUnknownSkill_10 at h
  exact go_thr (text := "no such skill") hl xs_65_69_1 (by decide +kernel) rfl rfl (d_S_refuseUnknownSkill 10 rfl) (d_S_refuseUnknownSkill 13 rfl) (d_S_refuseUnknownSkill 14 rfl) (d_S_refuseUnknownSkill 16 rfl) (d_S_refuseUnknownSkill 19 rfl) ⟨by decide, Nat.le_of_ble_eq_true rfl, by decide, by decide⟩ (Option.some.inj h) (by decide) (by decide)
def f_S_refuseUnknownSkill (x0 : Int32) (v : go_V) : Option go_R := br (decide (x0 < 0)) (f_S_refuseUnknownSkill_10  (x0) (v)) (br (decide (x0 < (8 : Int32))) (some (0, 0, 0, v)) (f_S_refuseUnknownSkill_10  (x0) (v)))
set_option maxHeartbeats 4000000 in
set_option maxRecDepth 100000 in
theorem Ca_S_refuseUnknownSkill {l : Launch} {G : go_G} {ad : Nat → Nat} (hl : l.stackTraces = false) {r : go_R} {x0 : Int32} {v : go_V} (h : f_S_refuseUnknownSkill x0 v = some r) : Ca l G y_S_refuseUnknownSkill (.code y_S_refuseUnknownSkill c_S_refuseUnknownSkill 1 none :: go_TT) (rmD 0 1) 0 ad [.int x0] v r := by
  unfold f_S_refuseUnknownSkill at h
  refine go_body (own := RS) (by decide) rfl (Nat.le_of_ble_eq_true rfl) ?_
  show Go l G M_S_refuseUnknownSkill go_Ex0 (go_E G ad 0 r 1 6) ad v [(0, .int x0)] 0 [] 0 0
  refine go_iload_n (d_S_refuseUnknownSkill 0 rfl) rfl rfl ?_
  rcases br_some h with ⟨c_1, h⟩ | ⟨c_1, h⟩
  · refine go_if_lt (tgt := 10) (d_S_refuseUnknownSkill 1 rfl) (by decide) (fun _ => ?_) (fun q => absurd (of_decide_eq_true c_1) q)
    exact b_S_refuseUnknownSkill_10 hl  (x0) (v) h
  · refine go_if_lt (tgt := 10) (d_S_refuseUnknownSkill 1 rfl) (by decide) (fun q => absurd q (of_decide_eq_false c_1)) (fun _ => ?_)
    refine go_iload_n (d_S_refuseUnknownSkill 4 rfl) rfl rfl ?_
    refine go_bipush (x := (8 : Int32)) (d_S_refuseUnknownSkill 5 rfl) (by decide) ?_
    rcases br_some h with ⟨c_2, h⟩ | ⟨c_2, h⟩
    · refine go_icmp_lt (tgt := 20) (d_S_refuseUnknownSkill 7 rfl) (by decide) (fun _ => ?_) (fun q => absurd (of_decide_eq_true c_2) q)
      exact go_vret (d_S_refuseUnknownSkill 20 rfl) rfl (Option.some.inj h) (by decide) (by decide)
    · refine go_icmp_lt (tgt := 20) (d_S_refuseUnknownSkill 7 rfl) (by decide) (fun q => absurd q (of_decide_eq_false c_2)) (fun _ => ?_)
      exact b_S_refuseUnknownSkill_10 hl  (x0) (v) h
abbrev M_S_refuseOutside : go_M := (c_S_refuseOutside, 3, none, RS, [], rmD 0 1)
def f_S_refuseOutside_10  (x0 : Int32) (x1 : Int32) (x2 : Int32) (v : go_V) : Option go_R := some (2, 0, 0, v)
set_option maxHeartbeats 4000000 in
set_option maxRecDepth 100000 in
theorem b_S_refuseOutside_10 {l : Launch} {G : go_G} {ad : Nat → Nat} (hl : l.stackTraces = false) {r : go_R}  (x0 : Int32) (x1 : Int32) (x2 : Int32) (v : go_V) (h : f_S_refuseOutside_10  x0 x1 x2 v = some r) : Go l G M_S_refuseOutside go_Ex0 (go_E G ad 0 r 1 6) ad v [(0, .int x0), (1, .int x1), (2, .int x2)] 10 [] 0 0 := by
  unfold f_S_refuseOutside_10 at h
  exact go_thr (text := "a number is outside its range") hl xs_203_207_2 (by decide +kernel) rfl rfl (d_S_refuseOutside 10 rfl) (d_S_refuseOutside 13 rfl) (d_S_refuseOutside 14 rfl) (d_S_refuseOutside 16 rfl) (d_S_refuseOutside 19 rfl) ⟨by decide, Nat.le_of_ble_eq_true rfl, by decide, by decide⟩ (Option.some.inj h) (by decide) (by decide)
def f_S_refuseOutside (x0 : Int32) (x1 : Int32) (x2 : Int32) (v : go_V) : Option go_R := br (decide (x0 < x1)) (f_S_refuseOutside_10  (x0) (x1) (x2) (v)) (br (decide (x0 ≤ x2)) (some (0, 0, 0, v)) (f_S_refuseOutside_10  (x0) (x1) (x2) (v)))
set_option maxHeartbeats 4000000 in
set_option maxRecDepth 100000 in
theorem Ca_S_refuseOutside {l : Launch} {G : go_G} {ad : Nat → Nat} (hl : l.stackTraces = false) {r : go_R} {x0 : Int32} {x1 : Int32} {x2 : Int32} {v : go_V} (h : f_S_refuseOutside x0 x1 x2 v = some r) : Ca l G y_S_refuseOutside (.code y_S_refuseOutside c_S_refuseOutside 3 none :: go_TT) (rmD 0 1) 0 ad [.int x0, .int x1, .int x2] v r := by
  unfold f_S_refuseOutside at h
  refine go_body (own := RS) (by decide) rfl (Nat.le_of_ble_eq_true rfl) ?_
  show Go l G M_S_refuseOutside go_Ex0 (go_E G ad 0 r 1 6) ad v [(0, .int x0), (1, .int x1), (2, .int x2)] 0 [] 0 0
  refine go_iload_n (d_S_refuseOutside 0 rfl) rfl rfl ?_
  refine go_iload_n (d_S_refuseOutside 1 rfl) rfl rfl ?_
  rcases br_some h with ⟨c_1, h⟩ | ⟨c_1, h⟩
  · refine go_icmp_lt (tgt := 10) (d_S_refuseOutside 2 rfl) (by decide) (fun _ => ?_) (fun q => absurd (of_decide_eq_true c_1) q)
    exact b_S_refuseOutside_10 hl  (x0) (x1) (x2) (v) h
  · refine go_icmp_lt (tgt := 10) (d_S_refuseOutside 2 rfl) (by decide) (fun q => absurd q (of_decide_eq_false c_1)) (fun _ => ?_)
    refine go_iload_n (d_S_refuseOutside 5 rfl) rfl rfl ?_
    refine go_iload_n (d_S_refuseOutside 6 rfl) rfl rfl ?_
    rcases br_some h with ⟨c_2, h⟩ | ⟨c_2, h⟩
    · refine go_icmp_le (tgt := 20) (d_S_refuseOutside 7 rfl) (by decide) (fun _ => ?_) (fun q => absurd (of_decide_eq_true c_2) q)
      exact go_vret (d_S_refuseOutside 20 rfl) rfl (Option.some.inj h) (by decide) (by decide)
    · refine go_icmp_le (tgt := 20) (d_S_refuseOutside 7 rfl) (by decide) (fun q => absurd q (of_decide_eq_false c_2)) (fun _ => ?_)
      exact b_S_refuseOutside_10 hl  (x0) (x1) (x2) (v) h
abbrev M_S_isAnyOpenAbove : go_M := (c_S_isAnyOpenAbove, 3, (some .boolean), RS, [], rmD 0 0)
def f_S_isAnyOpenAbove_37 (rec2 : Int32 → Int32 → go_V → Option go_R) (x1 : Int32) (x2 : Int32) (v : go_V) : Option go_R := rec2 (x1) ((x2 + 1)) (v)
set_option maxHeartbeats 4000000 in
set_option maxRecDepth 100000 in
theorem b_S_isAnyOpenAbove_37 {l : Launch} {G : go_G} {ad : Nat → Nat} (hl : l.stackTraces = false) {r : go_R} (rec2 : Int32 → Int32 → go_V → Option go_R) (hrec2 : ∀ (x1 : Int32) (x2 : Int32) (v : go_V), rec2 x1 x2 v = some r → Go l G M_S_isAnyOpenAbove go_Ex0 (go_E G ad 1 r 0 0) ad v [(0, .ref (ad (0))), (1, .int x1), (2, .int x2)] 2 [] 0 0) (x1 : Int32) (x2 : Int32) (v : go_V) (h : f_S_isAnyOpenAbove_37 rec2 x1 x2 v = some r) : Go l G M_S_isAnyOpenAbove go_Ex0 (go_E G ad 1 r 0 0) ad v [(0, .ref (ad (0))), (1, .int x1), (2, .int x2)] 37 [] 0 0 := by
  unfold f_S_isAnyOpenAbove_37 at h
  refine go_iinc (y := (x2 + 1)) (lv' := [(0, .ref (ad (0))), (1, .int x1), (2, .int ((x2 + 1)))]) (d_S_isAnyOpenAbove 37 rfl) rfl rfl (by decide) rfl ?_
  refine go_goto (tgt := 2) (d_S_isAnyOpenAbove 40 rfl) (by decide) ?_
  exact hrec2 (x1) ((x2 + 1)) (v) h
def f_S_isAnyOpenAbove_2  : Nat → Int32 → Int32 → go_V → Option go_R
  | 0, _, _, _ => none
  | n + 1, x1, x2, v => br (decide ((v 0 8) ≤ x2)) (some (0, (0 : Int32), 0, v)) (gd (go_in x2 12) (ln (go_elt 14 x2.toNatClampNeg) (fun k_3 => gd (Nat.beq (go_cls (k_3)) 0) (br (decide ((v (k_3) 0) = 0)) (f_S_isAnyOpenAbove_37 (f_S_isAnyOpenAbove_2 n) (x1) (x2) (v)) (gd (go_in x2 12) (ln (go_elt 14 x2.toNatClampNeg) (fun k_7 => gd (Nat.beq (go_cls (k_7)) 0) (br (decide ((v (k_7) 1) ≤ x1)) (f_S_isAnyOpenAbove_37 (f_S_isAnyOpenAbove_2 n) (x1) (x2) (v)) (some (0, (1 : Int32), 0, v))))))))))
set_option maxHeartbeats 4000000 in
set_option maxRecDepth 100000 in
theorem b_S_isAnyOpenAbove_2 {l : Launch} {G : go_G} {ad : Nat → Nat} (hl : l.stackTraces = false) {r : go_R}  : ∀ (n : Nat) (x1 : Int32) (x2 : Int32) (v : go_V), f_S_isAnyOpenAbove_2  n x1 x2 v = some r → Go l G M_S_isAnyOpenAbove go_Ex0 (go_E G ad 1 r 0 0) ad v [(0, .ref (ad (0))), (1, .int x1), (2, .int x2)] 2 [] 0 0 := by
  intro n
  induction n with
  | zero =>
    intro x1 x2 v h
    cases h
  | succ n ih =>
    intro x1 x2 v h
    rw [f_S_isAnyOpenAbove_2] at h
    refine go_iload_n (d_S_isAnyOpenAbove 2 rfl) rfl rfl ?_
    refine go_aload_n (d_S_isAnyOpenAbove 3 rfl) rfl rfl ?_
    refine go_getI (d_S_isAnyOpenAbove 4 rfl) fl_S_92 rfl rfl ?_
    rcases br_some h with ⟨c_1, h⟩ | ⟨c_1, h⟩
    · refine go_icmp_ge (tgt := 43) (d_S_isAnyOpenAbove 7 rfl) (by decide) (fun _ => ?_) (fun q => absurd (of_decide_eq_true c_1) q)
      refine go_iconst (x := (0 : Int32)) (d_S_isAnyOpenAbove 43 rfl) (by decide) ?_
      exact go_iret (d_S_isAnyOpenAbove 44 rfl) rfl (by decide) (Option.some.inj h) (by decide) (by decide)
    · refine go_icmp_ge (tgt := 43) (d_S_isAnyOpenAbove 7 rfl) (by decide) (fun q => absurd q (of_decide_eq_false c_1)) (fun _ => ?_)
      refine go_aload_n (d_S_isAnyOpenAbove 10 rfl) rfl rfl ?_
      refine go_getR (d_S_isAnyOpenAbove 11 rfl) fl_S_26 rfl rfl ?_
      show Go _ _ _ _ _ _ _ _ _ (.ref (ad (14)) :: []) _ _
      refine go_iload_n (d_S_isAnyOpenAbove 14 rfl) rfl rfl ?_
      obtain ⟨g_2, h⟩ := gd_some h
      obtain ⟨k_3, ek_3, h⟩ := ln_some h
      refine go_aald (c := 14) (d_S_isAnyOpenAbove 15 rfl) rfl (by decide) g_2 ?_
      rw [← ek_3]
      obtain ⟨g_4, h⟩ := gd_some h
      refine go_getI (d_S_isAnyOpenAbove 16 rfl) fl_S_97 (Nat.eq_of_beq_eq_true g_4) rfl ?_
      rcases br_some h with ⟨c_5, h⟩ | ⟨c_5, h⟩
      · refine go_if_eq (tgt := 37) (d_S_isAnyOpenAbove 19 rfl) (by decide) (fun _ => ?_) (fun q => absurd (of_decide_eq_true c_5) q)
        exact b_S_isAnyOpenAbove_37 hl _ ih (x1) (x2) (v) h
      · refine go_if_eq (tgt := 37) (d_S_isAnyOpenAbove 19 rfl) (by decide) (fun q => absurd q (of_decide_eq_false c_5)) (fun _ => ?_)
        refine go_aload_n (d_S_isAnyOpenAbove 22 rfl) rfl rfl ?_
        refine go_getR (d_S_isAnyOpenAbove 23 rfl) fl_S_26 rfl rfl ?_
        show Go _ _ _ _ _ _ _ _ _ (.ref (ad (14)) :: []) _ _
        refine go_iload_n (d_S_isAnyOpenAbove 26 rfl) rfl rfl ?_
        obtain ⟨g_6, h⟩ := gd_some h
        obtain ⟨k_7, ek_7, h⟩ := ln_some h
        refine go_aald (c := 14) (d_S_isAnyOpenAbove 27 rfl) rfl (by decide) g_6 ?_
        rw [← ek_7]
        obtain ⟨g_8, h⟩ := gd_some h
        refine go_getI (d_S_isAnyOpenAbove 28 rfl) fl_S_142 (Nat.eq_of_beq_eq_true g_8) rfl ?_
        refine go_iload_n (d_S_isAnyOpenAbove 31 rfl) rfl rfl ?_
        rcases br_some h with ⟨c_9, h⟩ | ⟨c_9, h⟩
        · refine go_icmp_le (tgt := 37) (d_S_isAnyOpenAbove 32 rfl) (by decide) (fun _ => ?_) (fun q => absurd (of_decide_eq_true c_9) q)
          exact b_S_isAnyOpenAbove_37 hl _ ih (x1) (x2) (v) h
        · refine go_icmp_le (tgt := 37) (d_S_isAnyOpenAbove 32 rfl) (by decide) (fun q => absurd q (of_decide_eq_false c_9)) (fun _ => ?_)
          refine go_iconst (x := (1 : Int32)) (d_S_isAnyOpenAbove 35 rfl) (by decide) ?_
          exact go_iret (d_S_isAnyOpenAbove 36 rfl) rfl (by decide) (Option.some.inj h) (by decide) (by decide)
def f_S_isAnyOpenAbove (x1 : Int32) (v : go_V) : Option go_R := f_S_isAnyOpenAbove_2  FU (x1) ((0 : Int32)) (v)
set_option maxHeartbeats 4000000 in
set_option maxRecDepth 100000 in
theorem Ca_S_isAnyOpenAbove {l : Launch} {G : go_G} {ad : Nat → Nat} (hl : l.stackTraces = false) {r : go_R} {x1 : Int32} {v : go_V} (h : f_S_isAnyOpenAbove x1 v = some r) : Ca l G y_S_isAnyOpenAbove (.code y_S_isAnyOpenAbove c_S_isAnyOpenAbove 3 (some .boolean) :: go_TT) (rmD 0 0) 1 ad [.ref (ad (0)), .int x1] v r := by
  unfold f_S_isAnyOpenAbove at h
  refine go_body (own := RS) (by decide) rfl (Nat.le_of_ble_eq_true rfl) ?_
  show Go l G M_S_isAnyOpenAbove go_Ex0 (go_E G ad 1 r 0 0) ad v [(0, .ref (ad (0))), (1, .int x1)] 0 [] 0 0
  refine go_iconst (x := (0 : Int32)) (d_S_isAnyOpenAbove 0 rfl) (by decide) ?_
  refine go_istore_n (lv' := [(0, .ref (ad (0))), (1, .int x1), (2, .int ((0 : Int32)))]) (d_S_isAnyOpenAbove 1 rfl) rfl (by decide) rfl ?_
  exact b_S_isAnyOpenAbove_2 hl  FU (x1) ((0 : Int32)) (v) h
abbrev M_S_addSilence : go_M := (c_S_addSilence, 3, none, RS, [], rmD 0 0)
def f_S_addSilence_67  (x1 : Int32) (x2 : Int32) (v : go_V) : Option go_R := gd (go_in x2 20) (ln (u2 v 13 x2.toNatClampNeg x1) (fun v_2 => some (0, 0, 0, v_2)))
set_option maxHeartbeats 4000000 in
set_option maxRecDepth 100000 in
theorem b_S_addSilence_67 {l : Launch} {G : go_G} {ad : Nat → Nat} (hl : l.stackTraces = false) {r : go_R}  (x1 : Int32) (x2 : Int32) (v : go_V) (h : f_S_addSilence_67  x1 x2 v = some r) : Go l G M_S_addSilence go_Ex0 (go_E G ad 0 r 0 0) ad v [(0, .ref (ad (0))), (1, .int x1), (2, .int x2)] 67 [] 0 0 := by
  unfold f_S_addSilence_67 at h
  refine go_aload_n (d_S_addSilence 67 rfl) rfl rfl ?_
  refine go_getR (d_S_addSilence 68 rfl) fl_S_20 rfl rfl ?_
  show Go _ _ _ _ _ _ _ _ _ (.ref (ad (13)) :: []) _ _
  refine go_iload_n (d_S_addSilence 71 rfl) rfl rfl ?_
  refine go_iload_n (d_S_addSilence 72 rfl) rfl rfl ?_
  obtain ⟨g_1, h⟩ := gd_some h
  obtain ⟨v_2, ev_2, h⟩ := ln_some h
  refine go_iast (y := x1) (d_S_addSilence 73 rfl) rfl g_1 ?_
  rw [← ev_2]
  exact go_vret (d_S_addSilence 74 rfl) rfl (Option.some.inj h) (by decide) (by decide)
def f_S_addSilence_15  : Nat → Int32 → Int32 → go_V → Option go_R
  | 0, _, _, _ => none
  | n + 1, x1, x2, v => br (decide (x2 ≤ 0)) (f_S_addSilence_67  (x1) (x2) (v)) (gd (go_in (x2 - (1 : Int32)) 20) (gd (go_in (v 13 (x2 - (1 : Int32)).toNatClampNeg) 20) (ln (go_elt 12 (v 13 (x2 - (1 : Int32)).toNatClampNeg).toNatClampNeg) (fun k_4 => gd (Nat.beq (go_cls (k_4)) 1) (gd (go_in x1 20) (ln (go_elt 12 x1.toNatClampNeg) (fun k_7 => gd (Nat.beq (go_cls (k_7)) 1) (br (decide ((v (k_4) 1) ≤ (v (k_7) 1))) (f_S_addSilence_67  (x1) (x2) (v)) (gd (go_in (x2 - (1 : Int32)) 20) (gd (go_in x2 20) (ln (u2 v 13 x2.toNatClampNeg (v 13 (x2 - (1 : Int32)).toNatClampNeg)) (fun v_12 => f_S_addSilence_15 n (x1) ((x2 + (-1))) (v_12)))))))))))))
set_option maxHeartbeats 4000000 in
set_option maxRecDepth 100000 in
theorem b_S_addSilence_15 {l : Launch} {G : go_G} {ad : Nat → Nat} (hl : l.stackTraces = false) {r : go_R}  : ∀ (n : Nat) (x1 : Int32) (x2 : Int32) (v : go_V), f_S_addSilence_15  n x1 x2 v = some r → Go l G M_S_addSilence go_Ex0 (go_E G ad 0 r 0 0) ad v [(0, .ref (ad (0))), (1, .int x1), (2, .int x2)] 15 [] 0 0 := by
  intro n
  induction n with
  | zero =>
    intro x1 x2 v h
    cases h
  | succ n ih =>
    intro x1 x2 v h
    rw [f_S_addSilence_15] at h
    refine go_iload_n (d_S_addSilence 15 rfl) rfl rfl ?_
    rcases br_some h with ⟨c_1, h⟩ | ⟨c_1, h⟩
    · refine go_if_le (tgt := 67) (d_S_addSilence 16 rfl) (by decide) (fun _ => ?_) (fun q => absurd (of_decide_eq_true c_1) q)
      exact b_S_addSilence_67 hl  (x1) (x2) (v) h
    · refine go_if_le (tgt := 67) (d_S_addSilence 16 rfl) (by decide) (fun q => absurd q (of_decide_eq_false c_1)) (fun _ => ?_)
      refine go_aload_n (d_S_addSilence 19 rfl) rfl rfl ?_
      refine go_getR (d_S_addSilence 20 rfl) fl_S_16 rfl rfl ?_
      show Go _ _ _ _ _ _ _ _ _ (.ref (ad (12)) :: []) _ _
      refine go_aload_n (d_S_addSilence 23 rfl) rfl rfl ?_
      refine go_getR (d_S_addSilence 24 rfl) fl_S_20 rfl rfl ?_
      show Go _ _ _ _ _ _ _ _ _ (.ref (ad (13)) :: .ref (ad (12)) :: []) _ _
      refine go_iload_n (d_S_addSilence 27 rfl) rfl rfl ?_
      refine go_iconst (x := (1 : Int32)) (d_S_addSilence 28 rfl) (by decide) ?_
      refine go_isub (d_S_addSilence 29 rfl) ?_
      obtain ⟨g_2, h⟩ := gd_some h
      refine go_iald (d_S_addSilence 30 rfl) rfl g_2 ?_
      obtain ⟨g_3, h⟩ := gd_some h
      obtain ⟨k_4, ek_4, h⟩ := ln_some h
      refine go_aald (c := 13) (d_S_addSilence 31 rfl) rfl (by decide) g_3 ?_
      rw [← ek_4]
      obtain ⟨g_5, h⟩ := gd_some h
      refine go_getI (d_S_addSilence 32 rfl) fl_S_221 (Nat.eq_of_beq_eq_true g_5) rfl ?_
      refine go_aload_n (d_S_addSilence 35 rfl) rfl rfl ?_
      refine go_getR (d_S_addSilence 36 rfl) fl_S_16 rfl rfl ?_
      show Go _ _ _ _ _ _ _ _ _ (.ref (ad (12)) :: .int ((v (k_4) 1)) :: []) _ _
      refine go_iload_n (d_S_addSilence 39 rfl) rfl rfl ?_
      obtain ⟨g_6, h⟩ := gd_some h
      obtain ⟨k_7, ek_7, h⟩ := ln_some h
      refine go_aald (c := 13) (d_S_addSilence 40 rfl) rfl (by decide) g_6 ?_
      rw [← ek_7]
      obtain ⟨g_8, h⟩ := gd_some h
      refine go_getI (d_S_addSilence 41 rfl) fl_S_221 (Nat.eq_of_beq_eq_true g_8) rfl ?_
      rcases br_some h with ⟨c_9, h⟩ | ⟨c_9, h⟩
      · refine go_icmp_le (tgt := 67) (d_S_addSilence 44 rfl) (by decide) (fun _ => ?_) (fun q => absurd (of_decide_eq_true c_9) q)
        exact b_S_addSilence_67 hl  (x1) (x2) (v) h
      · refine go_icmp_le (tgt := 67) (d_S_addSilence 44 rfl) (by decide) (fun q => absurd q (of_decide_eq_false c_9)) (fun _ => ?_)
        refine go_aload_n (d_S_addSilence 47 rfl) rfl rfl ?_
        refine go_getR (d_S_addSilence 48 rfl) fl_S_20 rfl rfl ?_
        show Go _ _ _ _ _ _ _ _ _ (.ref (ad (13)) :: []) _ _
        refine go_iload_n (d_S_addSilence 51 rfl) rfl rfl ?_
        refine go_aload_n (d_S_addSilence 52 rfl) rfl rfl ?_
        refine go_getR (d_S_addSilence 53 rfl) fl_S_20 rfl rfl ?_
        show Go _ _ _ _ _ _ _ _ _ (.ref (ad (13)) :: .int x2 :: .ref (ad (13)) :: []) _ _
        refine go_iload_n (d_S_addSilence 56 rfl) rfl rfl ?_
        refine go_iconst (x := (1 : Int32)) (d_S_addSilence 57 rfl) (by decide) ?_
        refine go_isub (d_S_addSilence 58 rfl) ?_
        obtain ⟨g_10, h⟩ := gd_some h
        refine go_iald (d_S_addSilence 59 rfl) rfl g_10 ?_
        obtain ⟨g_11, h⟩ := gd_some h
        obtain ⟨v_12, ev_12, h⟩ := ln_some h
        refine go_iast (y := (v 13 (x2 - (1 : Int32)).toNatClampNeg)) (d_S_addSilence 60 rfl) rfl g_11 ?_
        rw [← ev_12]
        refine go_iinc (y := (x2 + (-1))) (lv' := [(0, .ref (ad (0))), (1, .int x1), (2, .int ((x2 + (-1))))]) (d_S_addSilence 61 rfl) rfl rfl (by decide) rfl ?_
        refine go_goto (tgt := 15) (d_S_addSilence 64 rfl) (by decide) ?_
        exact ih (x1) ((x2 + (-1))) (v_12) h
def f_S_addSilence (x1 : Int32) (v : go_V) : Option go_R := ln (u2 v 0 6 ((v 0 6) + (1 : Int32))) (fun v_1 => f_S_addSilence_15  FU (x1) ((v 0 6)) (v_1))
set_option maxHeartbeats 4000000 in
set_option maxRecDepth 100000 in
theorem Ca_S_addSilence {l : Launch} {G : go_G} {ad : Nat → Nat} (hl : l.stackTraces = false) {r : go_R} {x1 : Int32} {v : go_V} (h : f_S_addSilence x1 v = some r) : Ca l G y_S_addSilence (.code y_S_addSilence c_S_addSilence 3 none :: go_TT) (rmD 0 0) 0 ad [.ref (ad (0)), .int x1] v r := by
  unfold f_S_addSilence at h
  refine go_body (own := RS) (by decide) rfl (Nat.le_of_ble_eq_true rfl) ?_
  show Go l G M_S_addSilence go_Ex0 (go_E G ad 0 r 0 0) ad v [(0, .ref (ad (0))), (1, .int x1)] 0 [] 0 0
  refine go_aload_n (d_S_addSilence 0 rfl) rfl rfl ?_
  refine go_getI (d_S_addSilence 1 rfl) fl_S_218 rfl rfl ?_
  refine go_istore_n (lv' := [(0, .ref (ad (0))), (1, .int x1), (2, .int ((v 0 6)))]) (d_S_addSilence 4 rfl) rfl (by decide) rfl ?_
  refine go_aload_n (d_S_addSilence 5 rfl) rfl rfl ?_
  refine go_dup (d_S_addSilence 6 rfl) rfl ?_
  refine go_getI (d_S_addSilence 7 rfl) fl_S_218 rfl rfl ?_
  refine go_iconst (x := (1 : Int32)) (d_S_addSilence 10 rfl) (by decide) ?_
  refine go_iadd (d_S_addSilence 11 rfl) ?_
  obtain ⟨v_1, ev_1, h⟩ := ln_some h
  refine go_putI (x := ((v 0 6) + (1 : Int32))) (d_S_addSilence 12 rfl) fp_S_218 rfl rfl rfl rfl ?_
  rw [← ev_1]
  exact b_S_addSilence_15 hl  FU (x1) ((v 0 6)) (v_1) h
abbrev M_S_knownIncident : go_M := (c_S_knownIncident, 2, (some (.object "SecondWaves$Incident")), RS, [], rmD 0 1)
def f_S_knownIncident_12  (x1 : Int32) (v : go_V) : Option go_R := some (1, 0, 0, v)
set_option maxHeartbeats 4000000 in
set_option maxRecDepth 100000 in
theorem b_S_knownIncident_12 {l : Launch} {G : go_G} {ad : Nat → Nat} (hl : l.stackTraces = false) {r : go_R}  (x1 : Int32) (v : go_V) (h : f_S_knownIncident_12  x1 v = some r) : Go l G M_S_knownIncident go_Ex0 (go_E G ad 2 r 1 6) ad v [(0, .ref (ad (0))), (1, .int x1)] 12 [] 0 0 := by
  unfold f_S_knownIncident_12 at h
  exact go_thr (text := "no such incident") hl xs_65_69_1 (by decide +kernel) rfl rfl (d_S_knownIncident 12 rfl) (d_S_knownIncident 15 rfl) (d_S_knownIncident 16 rfl) (d_S_knownIncident 18 rfl) (d_S_knownIncident 21 rfl) ⟨by decide, Nat.le_of_ble_eq_true rfl, by decide, by decide⟩ (Option.some.inj h) (by decide) (by decide)
def f_S_knownIncident (x1 : Int32) (v : go_V) : Option go_R := br (decide (x1 < 0)) (f_S_knownIncident_12  (x1) (v)) (br (decide (x1 < (v 0 8))) (gd (go_in x1 12) (ln (go_elt 14 x1.toNatClampNeg) (fun k_4 => some (0, 0, k_4, v)))) (f_S_knownIncident_12  (x1) (v)))
set_option maxHeartbeats 4000000 in
set_option maxRecDepth 100000 in
theorem Ca_S_knownIncident {l : Launch} {G : go_G} {ad : Nat → Nat} (hl : l.stackTraces = false) {r : go_R} {x1 : Int32} {v : go_V} (h : f_S_knownIncident x1 v = some r) : Ca l G y_S_knownIncident (.code y_S_knownIncident c_S_knownIncident 2 (some (.object "SecondWaves$Incident")) :: go_TT) (rmD 0 1) 2 ad [.ref (ad (0)), .int x1] v r := by
  unfold f_S_knownIncident at h
  refine go_body (own := RS) (by decide) rfl (Nat.le_of_ble_eq_true rfl) ?_
  show Go l G M_S_knownIncident go_Ex0 (go_E G ad 2 r 1 6) ad v [(0, .ref (ad (0))), (1, .int x1)] 0 [] 0 0
  refine go_iload_n (d_S_knownIncident 0 rfl) rfl rfl ?_
  rcases br_some h with ⟨c_1, h⟩ | ⟨c_1, h⟩
  · refine go_if_lt (tgt := 12) (d_S_knownIncident 1 rfl) (by decide) (fun _ => ?_) (fun q => absurd (of_decide_eq_true c_1) q)
    exact b_S_knownIncident_12 hl  (x1) (v) h
  · refine go_if_lt (tgt := 12) (d_S_knownIncident 1 rfl) (by decide) (fun q => absurd q (of_decide_eq_false c_1)) (fun _ => ?_)
    refine go_iload_n (d_S_knownIncident 4 rfl) rfl rfl ?_
    refine go_aload_n (d_S_knownIncident 5 rfl) rfl rfl ?_
    refine go_getI (d_S_knownIncident 6 rfl) fl_S_92 rfl rfl ?_
    rcases br_some h with ⟨c_2, h⟩ | ⟨c_2, h⟩
    · refine go_icmp_lt (tgt := 22) (d_S_knownIncident 9 rfl) (by decide) (fun _ => ?_) (fun q => absurd (of_decide_eq_true c_2) q)
      refine go_aload_n (d_S_knownIncident 22 rfl) rfl rfl ?_
      refine go_getR (d_S_knownIncident 23 rfl) fl_S_26 rfl rfl ?_
      show Go _ _ _ _ _ _ _ _ _ (.ref (ad (14)) :: []) _ _
      refine go_iload_n (d_S_knownIncident 26 rfl) rfl rfl ?_
      obtain ⟨g_3, h⟩ := gd_some h
      obtain ⟨k_4, ek_4, h⟩ := ln_some h
      refine go_aald (c := 14) (d_S_knownIncident 27 rfl) rfl (by decide) g_3 ?_
      rw [← ek_4]
      exact go_aret (d_S_knownIncident 28 rfl) rfl (Option.some.inj h) (by decide) (by decide)
    · refine go_icmp_lt (tgt := 22) (d_S_knownIncident 9 rfl) (by decide) (fun q => absurd q (of_decide_eq_false c_2)) (fun _ => ?_)
      exact b_S_knownIncident_12 hl  (x1) (v) h
abbrev M_S_refuseClosed : go_M := (c_S_refuseClosed, 1, none, RS, [], rmD 0 1)
def f_S_refuseClosed (k0 : Nat) (v : go_V) : Option go_R := gd (Nat.beq (go_cls (k0)) 0) (br (decide ((v (k0) 0) = 0)) (some (3, 0, 0, v)) (some (0, 0, 0, v)))
set_option maxHeartbeats 4000000 in
set_option maxRecDepth 100000 in
theorem Ca_S_refuseClosed {l : Launch} {G : go_G} {ad : Nat → Nat} (hl : l.stackTraces = false) {r : go_R} {k0 : Nat} {v : go_V} (h : f_S_refuseClosed k0 v = some r) : Ca l G y_S_refuseClosed (.code y_S_refuseClosed c_S_refuseClosed 1 none :: go_TT) (rmD 0 1) 0 ad [.ref (ad (k0))] v r := by
  unfold f_S_refuseClosed at h
  refine go_body (own := RS) (by decide) rfl (Nat.le_of_ble_eq_true rfl) ?_
  show Go l G M_S_refuseClosed go_Ex0 (go_E G ad 0 r 1 6) ad v [(0, .ref (ad (k0)))] 0 [] 0 0
  refine go_aload_n (d_S_refuseClosed 0 rfl) rfl rfl ?_
  obtain ⟨g_1, h⟩ := gd_some h
  refine go_getI (d_S_refuseClosed 1 rfl) fl_S_97 (Nat.eq_of_beq_eq_true g_1) rfl ?_
  rcases br_some h with ⟨c_2, h⟩ | ⟨c_2, h⟩
  · refine go_if_ne (tgt := 17) (d_S_refuseClosed 4 rfl) (by decide) (fun q => absurd (of_decide_eq_true c_2) q) (fun _ => ?_)
    exact go_thr (text := "the incident is closed") hl xs_54_58_3 (by decide +kernel) rfl rfl (d_S_refuseClosed 7 rfl) (d_S_refuseClosed 10 rfl) (d_S_refuseClosed 11 rfl) (d_S_refuseClosed 13 rfl) (d_S_refuseClosed 16 rfl) ⟨by decide, Nat.le_of_ble_eq_true rfl, by decide, by decide⟩ (Option.some.inj h) (by decide) (by decide)
  · refine go_if_ne (tgt := 17) (d_S_refuseClosed 4 rfl) (by decide) (fun _ => ?_) (fun q => absurd q (of_decide_eq_false c_2))
    exact go_vret (d_S_refuseClosed 17 rfl) rfl (Option.some.inj h) (by decide) (by decide)
abbrev M_S_raise : go_M := (c_S_raise, 3, none, RS, [], rmD 0 0)
def f_S_raise (k1 : Nat) (x2 : Int32) (v : go_V) : Option go_R := gd (Nat.beq (go_cls (k1)) 0) (br (decide (x2 ≤ (v (k1) 1))) (ln (u2 v 0 13 ((v 0 13) + (1 : Int32))) (fun v_3 => some (0, 0, 0, v_3))) (ln (u2 v (k1) 1 x2) (fun v_4 => ln (u2 v_4 (k1) 5 ((v_4 (k1) 5) + (1 : Int32))) (fun v_5 => some (0, 0, 0, v_5)))))
set_option maxHeartbeats 4000000 in
set_option maxRecDepth 100000 in
theorem Ca_S_raise {l : Launch} {G : go_G} {ad : Nat → Nat} (hl : l.stackTraces = false) {r : go_R} {k1 : Nat} {x2 : Int32} {v : go_V} (h : f_S_raise k1 x2 v = some r) : Ca l G y_S_raise (.code y_S_raise c_S_raise 3 none :: go_TT) (rmD 0 0) 0 ad [.ref (ad (0)), .ref (ad (k1)), .int x2] v r := by
  unfold f_S_raise at h
  refine go_body (own := RS) (by decide) rfl (Nat.le_of_ble_eq_true rfl) ?_
  show Go l G M_S_raise go_Ex0 (go_E G ad 0 r 0 0) ad v [(0, .ref (ad (0))), (1, .ref (ad (k1))), (2, .int x2)] 0 [] 0 0
  refine go_iload_n (d_S_raise 0 rfl) rfl rfl ?_
  refine go_aload_n (d_S_raise 1 rfl) rfl rfl ?_
  obtain ⟨g_1, h⟩ := gd_some h
  refine go_getI (d_S_raise 2 rfl) fl_S_142 (Nat.eq_of_beq_eq_true g_1) rfl ?_
  rcases br_some h with ⟨c_2, h⟩ | ⟨c_2, h⟩
  · refine go_icmp_le (tgt := 26) (d_S_raise 5 rfl) (by decide) (fun _ => ?_) (fun q => absurd (of_decide_eq_true c_2) q)
    refine go_aload_n (d_S_raise 26 rfl) rfl rfl ?_
    refine go_dup (d_S_raise 27 rfl) rfl ?_
    refine go_getI (d_S_raise 28 rfl) fl_S_194 rfl rfl ?_
    refine go_iconst (x := (1 : Int32)) (d_S_raise 31 rfl) (by decide) ?_
    refine go_iadd (d_S_raise 32 rfl) ?_
    obtain ⟨v_3, ev_3, h⟩ := ln_some h
    refine go_putI (x := ((v 0 13) + (1 : Int32))) (d_S_raise 33 rfl) fp_S_194 rfl rfl rfl rfl ?_
    rw [← ev_3]
    exact go_vret (d_S_raise 36 rfl) rfl (Option.some.inj h) (by decide) (by decide)
  · refine go_icmp_le (tgt := 26) (d_S_raise 5 rfl) (by decide) (fun q => absurd q (of_decide_eq_false c_2)) (fun _ => ?_)
    refine go_aload_n (d_S_raise 8 rfl) rfl rfl ?_
    refine go_iload_n (d_S_raise 9 rfl) rfl rfl ?_
    obtain ⟨v_4, ev_4, h⟩ := ln_some h
    refine go_putI (x := x2) (d_S_raise 10 rfl) fp_S_142 (Nat.eq_of_beq_eq_true g_1) rfl rfl rfl ?_
    rw [← ev_4]
    refine go_aload_n (d_S_raise 13 rfl) rfl rfl ?_
    refine go_dup (d_S_raise 14 rfl) rfl ?_
    refine go_getI (d_S_raise 15 rfl) fl_S_184 (Nat.eq_of_beq_eq_true g_1) rfl ?_
    refine go_iconst (x := (1 : Int32)) (d_S_raise 18 rfl) (by decide) ?_
    refine go_iadd (d_S_raise 19 rfl) ?_
    obtain ⟨v_5, ev_5, h⟩ := ln_some h
    refine go_putI (x := ((v_4 (k1) 5) + (1 : Int32))) (d_S_raise 20 rfl) fp_S_184 (Nat.eq_of_beq_eq_true g_1) rfl rfl rfl ?_
    rw [← ev_5]
    refine go_goto (tgt := 36) (d_S_raise 23 rfl) (by decide) ?_
    exact go_vret (d_S_raise 36 rfl) rfl (Option.some.inj h) (by decide) (by decide)
abbrev M_S_act : go_M := (c_S_act, 6, (some .boolean), RS, [], rmD 1 0)
def f_S_act_36  (k1 : Nat) (x2 : Int32) (x3 : Int32) (k4 : Nat) (x5 : Int32) (v : go_V) : Option go_R := gd (Nat.beq (go_cls (k1)) 0) (gd (Nat.beq (go_cls (go_ref (k1) 7)) 10) (gd (go_in x2 (go_len (go_ref (k1) 7))) (ln (u2 v (go_ref (k1) 7) x2.toNatClampNeg x3) (fun v_4 => ln (u2 v_4 (k1) 4 ((v_4 (k1) 4) + (1 : Int32))) (fun v_5 => gd (Nat.beq (go_cls (k4)) 1) (ln (u2 v_5 (k4) 4 ((v_5 (k4) 4) + (1 : Int32))) (fun v_7 => bd (f_S_raise k1 (if (v_7 0 1) < (v_7 (k4) 2) then (v_7 0 1) else (v_7 (k4) 2)) v_7) (fun r_8 => nt r_8 (some (0, (1 : Int32), 0, r_8.2.2.2))))))))))
set_option maxHeartbeats 4000000 in
set_option maxRecDepth 100000 in
theorem b_S_act_36 {l : Launch} {G : go_G} {ad : Nat → Nat} (hl : l.stackTraces = false) {r : go_R}  (k1 : Nat) (x2 : Int32) (x3 : Int32) (k4 : Nat) (x5 : Int32) (v : go_V) (h : f_S_act_36  k1 x2 x3 k4 x5 v = some r) : Go l G M_S_act go_Ex0 (go_E G ad 1 r 0 0) ad v [(0, .ref (ad (0))), (1, .ref (ad (k1))), (2, .int x2), (3, .int x3), (4, .ref (ad (k4))), (5, .int x5)] 36 [] 0 0 := by
  unfold f_S_act_36 at h
  refine go_aload_n (d_S_act 36 rfl) rfl rfl ?_
  obtain ⟨g_1, h⟩ := gd_some h
  refine go_getR (d_S_act 37 rfl) fl_S_228 (Nat.eq_of_beq_eq_true g_1) rfl ?_
  refine go_iload_n (d_S_act 40 rfl) rfl rfl ?_
  refine go_iload_n (d_S_act 41 rfl) rfl rfl ?_
  obtain ⟨g_2, h⟩ := gd_some h
  obtain ⟨g_3, h⟩ := gd_some h
  obtain ⟨v_4, ev_4, h⟩ := ln_some h
  refine go_iast (y := x3) (d_S_act 42 rfl) (Nat.eq_of_beq_eq_true g_2) g_3 ?_
  rw [← ev_4]
  refine go_aload_n (d_S_act 43 rfl) rfl rfl ?_
  refine go_dup (d_S_act 44 rfl) rfl ?_
  refine go_getI (d_S_act 45 rfl) fl_S_181 (Nat.eq_of_beq_eq_true g_1) rfl ?_
  refine go_iconst (x := (1 : Int32)) (d_S_act 48 rfl) (by decide) ?_
  refine go_iadd (d_S_act 49 rfl) ?_
  obtain ⟨v_5, ev_5, h⟩ := ln_some h
  refine go_putI (x := ((v_4 (k1) 4) + (1 : Int32))) (d_S_act 50 rfl) fp_S_181 (Nat.eq_of_beq_eq_true g_1) rfl rfl rfl ?_
  rw [← ev_5]
  refine go_aload (d_S_act 53 rfl) rfl ?_
  refine go_dup (d_S_act 55 rfl) rfl ?_
  obtain ⟨g_6, h⟩ := gd_some h
  refine go_getI (d_S_act 56 rfl) fl_S_193 (Nat.eq_of_beq_eq_true g_6) rfl ?_
  refine go_iconst (x := (1 : Int32)) (d_S_act 59 rfl) (by decide) ?_
  refine go_iadd (d_S_act 60 rfl) ?_
  obtain ⟨v_7, ev_7, h⟩ := ln_some h
  refine go_putI (x := ((v_5 (k4) 4) + (1 : Int32))) (d_S_act 61 rfl) fp_S_193 (Nat.eq_of_beq_eq_true g_6) rfl rfl rfl ?_
  rw [← ev_7]
  refine go_aload_n (d_S_act 64 rfl) rfl rfl ?_
  refine go_aload_n (d_S_act 65 rfl) rfl rfl ?_
  refine go_aload (d_S_act 66 rfl) rfl ?_
  refine go_getI (d_S_act 68 rfl) fl_S_234 (Nat.eq_of_beq_eq_true g_6) rfl ?_
  refine go_aload_n (d_S_act 71 rfl) rfl rfl ?_
  refine go_getI (d_S_act 72 rfl) fl_S_61 rfl rfl ?_
  refine go_min (d_S_act 75 rfl) mw_S_235 ⟨by decide, Nat.le_of_ble_eq_true rfl, by decide, by decide⟩ ?_
  obtain ⟨r_8, o_9, h⟩ := bd_some h
  obtain ⟨z_10, h⟩ := nt_some h
  refine go_cV (As := [.ref (ad (k1)), .int ((if (v_7 0 1) < (v_7 (k4) 2) then (v_7 0 1) else (v_7 (k4) 2)))]) (rest := []) (st2 := []) (c2 := 0) (s2 := 0) rfl rfl rfl rfl (Ca_S_raise hl o_9)  (d_S_act 78 rfl) cw_S_240 ⟨w_398, w_8⟩ rfl (by decide) rfl ⟨by decide, by decide⟩ rfl (Nat.le_of_ble_eq_true rfl) ⟨by decide, by decide⟩ (fun _ => ?_) (fun q => absurd z_10 q)
  refine go_iconst (x := (1 : Int32)) (d_S_act 81 rfl) (by decide) ?_
  exact go_iret (d_S_act 82 rfl) rfl (by decide) (Option.some.inj h) (by decide) (by decide)
def f_S_act (k1 : Nat) (x2 : Int32) (x3 : Int32) (v : go_V) : Option go_R := gd (go_in x2 20) (ln (go_elt 12 x2.toNatClampNeg) (fun k_2 => gd (Nat.beq (go_cls (k1)) 0) (gd (Nat.beq (go_cls (go_ref (k1) 7)) 10) (gd (go_in x2 (go_len (go_ref (k1) 7))) (br (decide ((v (go_ref (k1) 7) x2.toNatClampNeg) = ((-1) : Int32))) (f_S_act_36  (k1) (x2) (x3) (k_2) ((v (go_ref (k1) 7) x2.toNatClampNeg)) (v)) (gd (Nat.beq (go_cls (k_2)) 1) (br (decide ((v (k_2) 3) ≤ (x3 - (v (go_ref (k1) 7) x2.toNatClampNeg)))) (f_S_act_36  (k1) (x2) (x3) (k_2) ((v (go_ref (k1) 7) x2.toNatClampNeg)) (v)) (some (0, (0 : Int32), 0, v)))))))))
set_option maxHeartbeats 4000000 in
set_option maxRecDepth 100000 in
theorem Ca_S_act {l : Launch} {G : go_G} {ad : Nat → Nat} (hl : l.stackTraces = false) {r : go_R} {k1 : Nat} {x2 : Int32} {x3 : Int32} {v : go_V} (h : f_S_act k1 x2 x3 v = some r) : Ca l G y_S_act (.code y_S_act c_S_act 6 (some .boolean) :: go_TT) (rmD 1 0) 1 ad [.ref (ad (0)), .ref (ad (k1)), .int x2, .int x3] v r := by
  unfold f_S_act at h
  refine go_body (own := RS) (by decide) rfl (Nat.le_of_ble_eq_true rfl) ?_
  show Go l G M_S_act go_Ex0 (go_E G ad 1 r 0 0) ad v [(0, .ref (ad (0))), (1, .ref (ad (k1))), (2, .int x2), (3, .int x3)] 0 [] 0 0
  refine go_aload_n (d_S_act 0 rfl) rfl rfl ?_
  refine go_getR (d_S_act 1 rfl) fl_S_16 rfl rfl ?_
  show Go _ _ _ _ _ _ _ _ _ (.ref (ad (12)) :: []) _ _
  refine go_iload_n (d_S_act 4 rfl) rfl rfl ?_
  obtain ⟨g_1, h⟩ := gd_some h
  obtain ⟨k_2, ek_2, h⟩ := ln_some h
  refine go_aald (c := 13) (d_S_act 5 rfl) rfl (by decide) g_1 ?_
  rw [← ek_2]
  refine go_astore (lv' := [(0, .ref (ad (0))), (1, .ref (ad (k1))), (2, .int x2), (3, .int x3), (4, .ref (ad (k_2)))]) (d_S_act 6 rfl) (by decide) rfl ?_
  refine go_aload_n (d_S_act 8 rfl) rfl rfl ?_
  obtain ⟨g_3, h⟩ := gd_some h
  refine go_getR (d_S_act 9 rfl) fl_S_228 (Nat.eq_of_beq_eq_true g_3) rfl ?_
  refine go_iload_n (d_S_act 12 rfl) rfl rfl ?_
  obtain ⟨g_4, h⟩ := gd_some h
  obtain ⟨g_5, h⟩ := gd_some h
  refine go_iald (d_S_act 13 rfl) (Nat.eq_of_beq_eq_true g_4) g_5 ?_
  refine go_istore (lv' := [(0, .ref (ad (0))), (1, .ref (ad (k1))), (2, .int x2), (3, .int x3), (4, .ref (ad (k_2))), (5, .int ((v (go_ref (k1) 7) x2.toNatClampNeg)))]) (d_S_act 14 rfl) (by decide) rfl ?_
  refine go_iload (d_S_act 16 rfl) rfl ?_
  refine go_iconst (x := ((-1) : Int32)) (d_S_act 18 rfl) (by decide) ?_
  rcases br_some h with ⟨c_6, h⟩ | ⟨c_6, h⟩
  · refine go_icmp_eq (tgt := 36) (d_S_act 19 rfl) (by decide) (fun _ => ?_) (fun q => absurd (of_decide_eq_true c_6) q)
    exact b_S_act_36 hl  (k1) (x2) (x3) (k_2) ((v (go_ref (k1) 7) x2.toNatClampNeg)) (v) h
  · refine go_icmp_eq (tgt := 36) (d_S_act 19 rfl) (by decide) (fun q => absurd q (of_decide_eq_false c_6)) (fun _ => ?_)
    refine go_iload_n (d_S_act 22 rfl) rfl rfl ?_
    refine go_iload (d_S_act 23 rfl) rfl ?_
    refine go_isub (d_S_act 25 rfl) ?_
    refine go_aload (d_S_act 26 rfl) rfl ?_
    obtain ⟨g_7, h⟩ := gd_some h
    refine go_getI (d_S_act 28 rfl) fl_S_231 (Nat.eq_of_beq_eq_true g_7) rfl ?_
    rcases br_some h with ⟨c_8, h⟩ | ⟨c_8, h⟩
    · refine go_icmp_ge (tgt := 36) (d_S_act 31 rfl) (by decide) (fun _ => ?_) (fun q => absurd (of_decide_eq_true c_8) q)
      exact b_S_act_36 hl  (k1) (x2) (x3) (k_2) ((v (go_ref (k1) 7) x2.toNatClampNeg)) (v) h
    · refine go_icmp_ge (tgt := 36) (d_S_act 31 rfl) (by decide) (fun q => absurd q (of_decide_eq_false c_8)) (fun _ => ?_)
      refine go_iconst (x := (0 : Int32)) (d_S_act 34 rfl) (by decide) ?_
      exact go_iret (d_S_act 35 rfl) rfl (by decide) (Option.some.inj h) (by decide) (by decide)
abbrev M_S_stayedSilent : go_M := (c_S_stayedSilent, 6, (some .int), RS, [], rmD 2 0)
def f_S_stayedSilent_71 (rec5 : Nat → Int32 → Int32 → Int32 → go_V → Option go_R) (k1 : Nat) (x2 : Int32) (x3 : Int32) (x4 : Int32) (x5 : Int32) (v : go_V) : Option go_R := rec5 (k1) (x2) (x3) ((x4 + 1)) (v)
set_option maxHeartbeats 4000000 in
set_option maxRecDepth 100000 in
theorem b_S_stayedSilent_71 {l : Launch} {G : go_G} {ad : Nat → Nat} (hl : l.stackTraces = false) {r : go_R} (rec5 : Nat → Int32 → Int32 → Int32 → go_V → Option go_R) (hrec5 : ∀ (k1 : Nat) (x2 : Int32) (x3 : Int32) (x4 : Int32) (v : go_V), rec5 k1 x2 x3 x4 v = some r → Go l G M_S_stayedSilent go_Ex0 (go_E G ad 1 r 0 0) ad v [(0, .ref (ad (0))), (1, .ref (ad (k1))), (2, .int x2), (3, .int x3), (4, .int x4)] 5 [] 0 0) (k1 : Nat) (x2 : Int32) (x3 : Int32) (x4 : Int32) (x5 : Int32) (v : go_V) (h : f_S_stayedSilent_71 rec5 k1 x2 x3 x4 x5 v = some r) : Go l G M_S_stayedSilent go_Ex0 (go_E G ad 1 r 0 0) ad v [(0, .ref (ad (0))), (1, .ref (ad (k1))), (2, .int x2), (3, .int x3), (4, .int x4), (5, .int x5)] 71 [] 0 0 := by
  unfold f_S_stayedSilent_71 at h
  refine go_iinc (y := (x4 + 1)) (lv' := [(0, .ref (ad (0))), (1, .ref (ad (k1))), (2, .int x2), (3, .int x3), (4, .int ((x4 + 1))), (5, .int x5)]) (d_S_stayedSilent 71 rfl) rfl rfl (by decide) rfl ?_
  refine go_goto (tgt := 5) (d_S_stayedSilent 74 rfl) (by decide) ?_
  refine go_sub (lv' := [(0, .ref (ad (0))), (1, .ref (ad (k1))), (2, .int x2), (3, .int x3), (4, .int ((x4 + 1)))]) ⟨rfl, rfl, rfl, rfl, rfl, trivial⟩ ?_
  exact hrec5 (k1) (x2) (x3) ((x4 + 1)) (v) h
def f_S_stayedSilent_5  : Nat → Nat → Int32 → Int32 → Int32 → go_V → Option go_R
  | 0, _, _, _, _, _ => none
  | n + 1, k1, x2, x3, x4, v => br (decide ((v 0 6) ≤ x4)) (some (0, x3, 0, v)) (gd (Nat.beq (go_cls (k1)) 0) (gd (go_in x4 20) (gd (go_in (v 13 x4.toNatClampNeg) 20) (ln (go_elt 12 (v 13 x4.toNatClampNeg).toNatClampNeg) (fun k_5 => gd (Nat.beq (go_cls (k_5)) 1) (br (decide (((v (k1) 3) + (v (k_5) 1)) ≤ (v 0 2))) (f_S_stayedSilent_71 (f_S_stayedSilent_5 n) (k1) (x2) (x3) (x4) (((v (k1) 3) + (v (k_5) 1))) (v)) (br (decide (x2 < ((v (k1) 3) + (v (k_5) 1)))) (f_S_stayedSilent_71 (f_S_stayedSilent_5 n) (k1) (x2) (x3) (x4) (((v (k1) 3) + (v (k_5) 1))) (v)) (gd (go_in x4 20) (bd (f_S_act k1 (v 13 x4.toNatClampNeg) ((v (k1) 3) + (v (k_5) 1)) v) (fun r_10 => nt r_10 (br (decide (r_10.2.1 = 0)) (f_S_stayedSilent_71 (f_S_stayedSilent_5 n) (k1) (x2) (x3) (x4) (((v (k1) 3) + (v (k_5) 1))) (r_10.2.2.2)) (f_S_stayedSilent_71 (f_S_stayedSilent_5 n) (k1) (x2) ((x3 + 1)) (x4) (((v (k1) 3) + (v (k_5) 1))) (r_10.2.2.2)))))))))))))
set_option maxHeartbeats 4000000 in
set_option maxRecDepth 100000 in
theorem b_S_stayedSilent_5 {l : Launch} {G : go_G} {ad : Nat → Nat} (hl : l.stackTraces = false) {r : go_R}  : ∀ (n : Nat) (k1 : Nat) (x2 : Int32) (x3 : Int32) (x4 : Int32) (v : go_V), f_S_stayedSilent_5  n k1 x2 x3 x4 v = some r → Go l G M_S_stayedSilent go_Ex0 (go_E G ad 1 r 0 0) ad v [(0, .ref (ad (0))), (1, .ref (ad (k1))), (2, .int x2), (3, .int x3), (4, .int x4)] 5 [] 0 0 := by
  intro n
  induction n with
  | zero =>
    intro k1 x2 x3 x4 v h
    cases h
  | succ n ih =>
    intro k1 x2 x3 x4 v h
    rw [f_S_stayedSilent_5] at h
    refine go_iload (d_S_stayedSilent 5 rfl) rfl ?_
    refine go_aload_n (d_S_stayedSilent 7 rfl) rfl rfl ?_
    refine go_getI (d_S_stayedSilent 8 rfl) fl_S_218 rfl rfl ?_
    rcases br_some h with ⟨c_1, h⟩ | ⟨c_1, h⟩
    · refine go_icmp_ge (tgt := 77) (d_S_stayedSilent 11 rfl) (by decide) (fun _ => ?_) (fun q => absurd (of_decide_eq_true c_1) q)
      refine go_iload_n (d_S_stayedSilent 77 rfl) rfl rfl ?_
      exact go_iret (d_S_stayedSilent 78 rfl) rfl rfl (Option.some.inj h) (by decide) (by decide)
    · refine go_icmp_ge (tgt := 77) (d_S_stayedSilent 11 rfl) (by decide) (fun q => absurd q (of_decide_eq_false c_1)) (fun _ => ?_)
      refine go_aload_n (d_S_stayedSilent 14 rfl) rfl rfl ?_
      obtain ⟨g_2, h⟩ := gd_some h
      refine go_getI (d_S_stayedSilent 15 rfl) fl_S_104 (Nat.eq_of_beq_eq_true g_2) rfl ?_
      refine go_aload_n (d_S_stayedSilent 18 rfl) rfl rfl ?_
      refine go_getR (d_S_stayedSilent 19 rfl) fl_S_16 rfl rfl ?_
      show Go _ _ _ _ _ _ _ _ _ (.ref (ad (12)) :: .int ((v (k1) 3)) :: []) _ _
      refine go_aload_n (d_S_stayedSilent 22 rfl) rfl rfl ?_
      refine go_getR (d_S_stayedSilent 23 rfl) fl_S_20 rfl rfl ?_
      show Go _ _ _ _ _ _ _ _ _ (.ref (ad (13)) :: .ref (ad (12)) :: .int ((v (k1) 3)) :: []) _ _
      refine go_iload (d_S_stayedSilent 26 rfl) rfl ?_
      obtain ⟨g_3, h⟩ := gd_some h
      refine go_iald (d_S_stayedSilent 28 rfl) rfl g_3 ?_
      obtain ⟨g_4, h⟩ := gd_some h
      obtain ⟨k_5, ek_5, h⟩ := ln_some h
      refine go_aald (c := 13) (d_S_stayedSilent 29 rfl) rfl (by decide) g_4 ?_
      rw [← ek_5]
      obtain ⟨g_6, h⟩ := gd_some h
      refine go_getI (d_S_stayedSilent 30 rfl) fl_S_221 (Nat.eq_of_beq_eq_true g_6) rfl ?_
      refine go_iadd (d_S_stayedSilent 33 rfl) ?_
      refine go_istore (lv' := [(0, .ref (ad (0))), (1, .ref (ad (k1))), (2, .int x2), (3, .int x3), (4, .int x4), (5, .int (((v (k1) 3) + (v (k_5) 1))))]) (d_S_stayedSilent 34 rfl) (by decide) rfl ?_
      refine go_iload (d_S_stayedSilent 36 rfl) rfl ?_
      refine go_aload_n (d_S_stayedSilent 38 rfl) rfl rfl ?_
      refine go_getI (d_S_stayedSilent 39 rfl) fl_S_101 rfl rfl ?_
      rcases br_some h with ⟨c_7, h⟩ | ⟨c_7, h⟩
      · refine go_icmp_le (tgt := 71) (d_S_stayedSilent 42 rfl) (by decide) (fun _ => ?_) (fun q => absurd (of_decide_eq_true c_7) q)
        exact b_S_stayedSilent_71 hl _ ih (k1) (x2) (x3) (x4) (((v (k1) 3) + (v (k_5) 1))) (v) h
      · refine go_icmp_le (tgt := 71) (d_S_stayedSilent 42 rfl) (by decide) (fun q => absurd q (of_decide_eq_false c_7)) (fun _ => ?_)
        refine go_iload (d_S_stayedSilent 45 rfl) rfl ?_
        refine go_iload_n (d_S_stayedSilent 47 rfl) rfl rfl ?_
        rcases br_some h with ⟨c_8, h⟩ | ⟨c_8, h⟩
        · refine go_icmp_gt (tgt := 71) (d_S_stayedSilent 48 rfl) (by decide) (fun _ => ?_) (fun q => absurd (of_decide_eq_true c_8) q)
          exact b_S_stayedSilent_71 hl _ ih (k1) (x2) (x3) (x4) (((v (k1) 3) + (v (k_5) 1))) (v) h
        · refine go_icmp_gt (tgt := 71) (d_S_stayedSilent 48 rfl) (by decide) (fun q => absurd q (of_decide_eq_false c_8)) (fun _ => ?_)
          refine go_aload_n (d_S_stayedSilent 51 rfl) rfl rfl ?_
          refine go_aload_n (d_S_stayedSilent 52 rfl) rfl rfl ?_
          refine go_aload_n (d_S_stayedSilent 53 rfl) rfl rfl ?_
          refine go_getR (d_S_stayedSilent 54 rfl) fl_S_20 rfl rfl ?_
          show Go _ _ _ _ _ _ _ _ _ (.ref (ad (13)) :: .ref (ad (k1)) :: .ref (ad (0)) :: []) _ _
          refine go_iload (d_S_stayedSilent 57 rfl) rfl ?_
          obtain ⟨g_9, h⟩ := gd_some h
          refine go_iald (d_S_stayedSilent 59 rfl) rfl g_9 ?_
          refine go_iload (d_S_stayedSilent 60 rfl) rfl ?_
          obtain ⟨r_10, o_11, h⟩ := bd_some h
          obtain ⟨z_12, h⟩ := nt_some h
          refine go_cV (As := [.ref (ad (k1)), .int ((v 13 x4.toNatClampNeg)), .int (((v (k1) 3) + (v (k_5) 1)))]) (rest := []) (st2 := [.int (r_10.2.1)]) (c2 := 0) (s2 := 0) rfl rfl rfl rfl (Ca_S_act hl o_11)  (d_S_stayedSilent 62 rfl) cw_S_224 ⟨w_391, w_7⟩ rfl (by decide) rfl ⟨by decide, by decide⟩ rfl (Nat.le_of_ble_eq_true rfl) ⟨by decide, by decide⟩ (fun _ => ?_) (fun q => absurd z_12 q)
          rcases br_some h with ⟨c_13, h⟩ | ⟨c_13, h⟩
          · refine go_if_eq (tgt := 71) (d_S_stayedSilent 65 rfl) (by decide) (fun _ => ?_) (fun q => absurd (of_decide_eq_true c_13) q)
            exact b_S_stayedSilent_71 hl _ ih (k1) (x2) (x3) (x4) (((v (k1) 3) + (v (k_5) 1))) (r_10.2.2.2) h
          · refine go_if_eq (tgt := 71) (d_S_stayedSilent 65 rfl) (by decide) (fun q => absurd q (of_decide_eq_false c_13)) (fun _ => ?_)
            refine go_iinc (y := (x3 + 1)) (lv' := [(0, .ref (ad (0))), (1, .ref (ad (k1))), (2, .int x2), (3, .int ((x3 + 1))), (4, .int x4), (5, .int (((v (k1) 3) + (v (k_5) 1))))]) (d_S_stayedSilent 68 rfl) rfl rfl (by decide) rfl ?_
            exact b_S_stayedSilent_71 hl _ ih (k1) (x2) ((x3 + 1)) (x4) (((v (k1) 3) + (v (k_5) 1))) (r_10.2.2.2) h
def f_S_stayedSilent (k1 : Nat) (x2 : Int32) (v : go_V) : Option go_R := f_S_stayedSilent_5  FU (k1) (x2) ((0 : Int32)) ((0 : Int32)) (v)
set_option maxHeartbeats 4000000 in
set_option maxRecDepth 100000 in
theorem Ca_S_stayedSilent {l : Launch} {G : go_G} {ad : Nat → Nat} (hl : l.stackTraces = false) {r : go_R} {k1 : Nat} {x2 : Int32} {v : go_V} (h : f_S_stayedSilent k1 x2 v = some r) : Ca l G y_S_stayedSilent (.code y_S_stayedSilent c_S_stayedSilent 6 (some .int) :: go_TT) (rmD 2 0) 1 ad [.ref (ad (0)), .ref (ad (k1)), .int x2] v r := by
  unfold f_S_stayedSilent at h
  refine go_body (own := RS) (by decide) rfl (Nat.le_of_ble_eq_true rfl) ?_
  show Go l G M_S_stayedSilent go_Ex0 (go_E G ad 1 r 0 0) ad v [(0, .ref (ad (0))), (1, .ref (ad (k1))), (2, .int x2)] 0 [] 0 0
  refine go_iconst (x := (0 : Int32)) (d_S_stayedSilent 0 rfl) (by decide) ?_
  refine go_istore_n (lv' := [(0, .ref (ad (0))), (1, .ref (ad (k1))), (2, .int x2), (3, .int ((0 : Int32)))]) (d_S_stayedSilent 1 rfl) rfl (by decide) rfl ?_
  refine go_iconst (x := (0 : Int32)) (d_S_stayedSilent 2 rfl) (by decide) ?_
  refine go_istore (lv' := [(0, .ref (ad (0))), (1, .ref (ad (k1))), (2, .int x2), (3, .int ((0 : Int32))), (4, .int ((0 : Int32)))]) (d_S_stayedSilent 3 rfl) (by decide) rfl ?_
  exact b_S_stayedSilent_5 hl  FU (k1) (x2) ((0 : Int32)) ((0 : Int32)) (v) h
abbrev M_S_hasTriggerForWord : go_M := (c_S_hasTriggerForWord, 3, (some .boolean), RS, [], rmD 1 0)
def f_S_hasTriggerForWord_2  : Nat → Int32 → Int32 → go_V → Option go_R
  | 0, _, _, _ => none
  | n + 1, x1, x2, v => br (decide ((v 0 4) ≤ x2)) (some (0, (0 : Int32), 0, v)) (gd (go_in x2 20) (ln (go_elt 12 x2.toNatClampNeg) (fun k_3 => gd (Nat.beq (go_cls (k_3)) 1) (bd (f_T_isFor k_3 (0 : Int32) x1 x1 v) (fun r_4 => nt r_4 (br (decide (r_4.2.1 = 0)) (f_S_hasTriggerForWord_2 n (x1) ((x2 + 1)) (r_4.2.2.2)) (some (0, (1 : Int32), 0, r_4.2.2.2))))))))
set_option maxHeartbeats 4000000 in
set_option maxRecDepth 100000 in
theorem b_S_hasTriggerForWord_2 {l : Launch} {G : go_G} {ad : Nat → Nat} (hl : l.stackTraces = false) {r : go_R}  : ∀ (n : Nat) (x1 : Int32) (x2 : Int32) (v : go_V), f_S_hasTriggerForWord_2  n x1 x2 v = some r → Go l G M_S_hasTriggerForWord go_Ex0 (go_E G ad 1 r 0 0) ad v [(0, .ref (ad (0))), (1, .int x1), (2, .int x2)] 2 [] 0 0 := by
  intro n
  induction n with
  | zero =>
    intro x1 x2 v h
    cases h
  | succ n ih =>
    intro x1 x2 v h
    rw [f_S_hasTriggerForWord_2] at h
    refine go_iload_n (d_S_hasTriggerForWord 2 rfl) rfl rfl ?_
    refine go_aload_n (d_S_hasTriggerForWord 3 rfl) rfl rfl ?_
    refine go_getI (d_S_hasTriggerForWord 4 rfl) fl_S_77 rfl rfl ?_
    rcases br_some h with ⟨c_1, h⟩ | ⟨c_1, h⟩
    · refine go_icmp_ge (tgt := 33) (d_S_hasTriggerForWord 7 rfl) (by decide) (fun _ => ?_) (fun q => absurd (of_decide_eq_true c_1) q)
      refine go_iconst (x := (0 : Int32)) (d_S_hasTriggerForWord 33 rfl) (by decide) ?_
      exact go_iret (d_S_hasTriggerForWord 34 rfl) rfl (by decide) (Option.some.inj h) (by decide) (by decide)
    · refine go_icmp_ge (tgt := 33) (d_S_hasTriggerForWord 7 rfl) (by decide) (fun q => absurd q (of_decide_eq_false c_1)) (fun _ => ?_)
      refine go_aload_n (d_S_hasTriggerForWord 10 rfl) rfl rfl ?_
      refine go_getR (d_S_hasTriggerForWord 11 rfl) fl_S_16 rfl rfl ?_
      show Go _ _ _ _ _ _ _ _ _ (.ref (ad (12)) :: []) _ _
      refine go_iload_n (d_S_hasTriggerForWord 14 rfl) rfl rfl ?_
      obtain ⟨g_2, h⟩ := gd_some h
      obtain ⟨k_3, ek_3, h⟩ := ln_some h
      refine go_aald (c := 13) (d_S_hasTriggerForWord 15 rfl) rfl (by decide) g_2 ?_
      rw [← ek_3]
      refine go_iconst (x := (0 : Int32)) (d_S_hasTriggerForWord 16 rfl) (by decide) ?_
      refine go_iload_n (d_S_hasTriggerForWord 17 rfl) rfl rfl ?_
      refine go_iload_n (d_S_hasTriggerForWord 18 rfl) rfl rfl ?_
      obtain ⟨g_7, h⟩ := gd_some h
      obtain ⟨r_4, o_5, h⟩ := bd_some h
      obtain ⟨z_6, h⟩ := nt_some h
      refine go_cN (As := [.int ((0 : Int32)), .int x1, .int x1]) (rest := []) (st2 := [.int (r_4.2.1)]) (c2 := 0) (s2 := 0) rfl rfl rfl rfl (Ca_T_isFor hl o_5) z_6 (d_S_hasTriggerForWord 19 rfl) cw_S_214 ⟨w_413, w_10⟩ (Nat.eq_of_beq_eq_true g_7) (by decide) rfl ⟨by decide, by decide⟩ rfl (Nat.le_of_ble_eq_true rfl) ⟨by decide, by decide⟩ ?_
      rcases br_some h with ⟨c_8, h⟩ | ⟨c_8, h⟩
      · refine go_if_eq (tgt := 27) (d_S_hasTriggerForWord 22 rfl) (by decide) (fun _ => ?_) (fun q => absurd (of_decide_eq_true c_8) q)
        refine go_iinc (y := (x2 + 1)) (lv' := [(0, .ref (ad (0))), (1, .int x1), (2, .int ((x2 + 1)))]) (d_S_hasTriggerForWord 27 rfl) rfl rfl (by decide) rfl ?_
        refine go_goto (tgt := 2) (d_S_hasTriggerForWord 30 rfl) (by decide) ?_
        exact ih (x1) ((x2 + 1)) (r_4.2.2.2) h
      · refine go_if_eq (tgt := 27) (d_S_hasTriggerForWord 22 rfl) (by decide) (fun q => absurd q (of_decide_eq_false c_8)) (fun _ => ?_)
        refine go_iconst (x := (1 : Int32)) (d_S_hasTriggerForWord 25 rfl) (by decide) ?_
        exact go_iret (d_S_hasTriggerForWord 26 rfl) rfl (by decide) (Option.some.inj h) (by decide) (by decide)
def f_S_hasTriggerForWord (x1 : Int32) (v : go_V) : Option go_R := f_S_hasTriggerForWord_2  FU (x1) ((0 : Int32)) (v)
set_option maxHeartbeats 4000000 in
set_option maxRecDepth 100000 in
theorem Ca_S_hasTriggerForWord {l : Launch} {G : go_G} {ad : Nat → Nat} (hl : l.stackTraces = false) {r : go_R} {x1 : Int32} {v : go_V} (h : f_S_hasTriggerForWord x1 v = some r) : Ca l G y_S_hasTriggerForWord (.code y_S_hasTriggerForWord c_S_hasTriggerForWord 3 (some .boolean) :: go_TT) (rmD 1 0) 1 ad [.ref (ad (0)), .int x1] v r := by
  unfold f_S_hasTriggerForWord at h
  refine go_body (own := RS) (by decide) rfl (Nat.le_of_ble_eq_true rfl) ?_
  show Go l G M_S_hasTriggerForWord go_Ex0 (go_E G ad 1 r 0 0) ad v [(0, .ref (ad (0))), (1, .int x1)] 0 [] 0 0
  refine go_iconst (x := (0 : Int32)) (d_S_hasTriggerForWord 0 rfl) (by decide) ?_
  refine go_istore_n (lv' := [(0, .ref (ad (0))), (1, .int x1), (2, .int ((0 : Int32)))]) (d_S_hasTriggerForWord 1 rfl) rfl (by decide) rfl ?_
  exact b_S_hasTriggerForWord_2 hl  FU (x1) ((0 : Int32)) (v) h
abbrev M_S_happened : go_M := (c_S_happened, 7, (some .int), RS, [], rmD 2 0)
def f_S_happened_49 (rec6 : Nat → Int32 → Int32 → Int32 → Int32 → Int32 → go_V → Option go_R) (k1 : Nat) (x2 : Int32) (x3 : Int32) (x4 : Int32) (x5 : Int32) (x6 : Int32) (v : go_V) : Option go_R := rec6 (k1) (x2) (x3) (x4) (x5) ((x6 + 1)) (v)
set_option maxHeartbeats 4000000 in
set_option maxRecDepth 100000 in
theorem b_S_happened_49 {l : Launch} {G : go_G} {ad : Nat → Nat} (hl : l.stackTraces = false) {r : go_R} (rec6 : Nat → Int32 → Int32 → Int32 → Int32 → Int32 → go_V → Option go_R) (hrec6 : ∀ (k1 : Nat) (x2 : Int32) (x3 : Int32) (x4 : Int32) (x5 : Int32) (x6 : Int32) (v : go_V), rec6 k1 x2 x3 x4 x5 x6 v = some r → Go l G M_S_happened go_Ex0 (go_E G ad 1 r 0 0) ad v [(0, .ref (ad (0))), (1, .ref (ad (k1))), (2, .int x2), (3, .int x3), (4, .int x4), (5, .int x5), (6, .int x6)] 6 [] 0 0) (k1 : Nat) (x2 : Int32) (x3 : Int32) (x4 : Int32) (x5 : Int32) (x6 : Int32) (v : go_V) (h : f_S_happened_49 rec6 k1 x2 x3 x4 x5 x6 v = some r) : Go l G M_S_happened go_Ex0 (go_E G ad 1 r 0 0) ad v [(0, .ref (ad (0))), (1, .ref (ad (k1))), (2, .int x2), (3, .int x3), (4, .int x4), (5, .int x5), (6, .int x6)] 49 [] 0 0 := by
  unfold f_S_happened_49 at h
  refine go_iinc (y := (x6 + 1)) (lv' := [(0, .ref (ad (0))), (1, .ref (ad (k1))), (2, .int x2), (3, .int x3), (4, .int x4), (5, .int x5), (6, .int ((x6 + 1)))]) (d_S_happened 49 rfl) rfl rfl (by decide) rfl ?_
  refine go_goto (tgt := 6) (d_S_happened 52 rfl) (by decide) ?_
  exact hrec6 (k1) (x2) (x3) (x4) (x5) ((x6 + 1)) (v) h
def f_S_happened_6  : Nat → Nat → Int32 → Int32 → Int32 → Int32 → Int32 → go_V → Option go_R
  | 0, _, _, _, _, _, _, _ => none
  | n + 1, k1, x2, x3, x4, x5, x6, v => br (decide ((v 0 4) ≤ x6)) (some (0, x5, 0, v)) (gd (go_in x6 20) (ln (go_elt 12 x6.toNatClampNeg) (fun k_3 => gd (Nat.beq (go_cls (k_3)) 1) (bd (f_T_isFor k_3 x2 x3 x4 v) (fun r_4 => nt r_4 (br (decide (r_4.2.1 = 0)) (f_S_happened_49 (f_S_happened_6 n) (k1) (x2) (x3) (x4) (x5) (x6) (r_4.2.2.2)) (bd (f_S_act k1 x6 (r_4.2.2.2 0 2) r_4.2.2.2) (fun r_9 => nt r_9 (br (decide (r_9.2.1 = 0)) (f_S_happened_49 (f_S_happened_6 n) (k1) (x2) (x3) (x4) (x5) (x6) (r_9.2.2.2)) (f_S_happened_49 (f_S_happened_6 n) (k1) (x2) (x3) (x4) ((x5 + 1)) (x6) (r_9.2.2.2)))))))))))
set_option maxHeartbeats 4000000 in
set_option maxRecDepth 100000 in
theorem b_S_happened_6 {l : Launch} {G : go_G} {ad : Nat → Nat} (hl : l.stackTraces = false) {r : go_R}  : ∀ (n : Nat) (k1 : Nat) (x2 : Int32) (x3 : Int32) (x4 : Int32) (x5 : Int32) (x6 : Int32) (v : go_V), f_S_happened_6  n k1 x2 x3 x4 x5 x6 v = some r → Go l G M_S_happened go_Ex0 (go_E G ad 1 r 0 0) ad v [(0, .ref (ad (0))), (1, .ref (ad (k1))), (2, .int x2), (3, .int x3), (4, .int x4), (5, .int x5), (6, .int x6)] 6 [] 0 0 := by
  intro n
  induction n with
  | zero =>
    intro k1 x2 x3 x4 x5 x6 v h
    cases h
  | succ n ih =>
    intro k1 x2 x3 x4 x5 x6 v h
    rw [f_S_happened_6] at h
    refine go_iload (d_S_happened 6 rfl) rfl ?_
    refine go_aload_n (d_S_happened 8 rfl) rfl rfl ?_
    refine go_getI (d_S_happened 9 rfl) fl_S_77 rfl rfl ?_
    rcases br_some h with ⟨c_1, h⟩ | ⟨c_1, h⟩
    · refine go_icmp_ge (tgt := 55) (d_S_happened 12 rfl) (by decide) (fun _ => ?_) (fun q => absurd (of_decide_eq_true c_1) q)
      refine go_iload (d_S_happened 55 rfl) rfl ?_
      exact go_iret (d_S_happened 57 rfl) rfl rfl (Option.some.inj h) (by decide) (by decide)
    · refine go_icmp_ge (tgt := 55) (d_S_happened 12 rfl) (by decide) (fun q => absurd q (of_decide_eq_false c_1)) (fun _ => ?_)
      refine go_aload_n (d_S_happened 15 rfl) rfl rfl ?_
      refine go_getR (d_S_happened 16 rfl) fl_S_16 rfl rfl ?_
      show Go _ _ _ _ _ _ _ _ _ (.ref (ad (12)) :: []) _ _
      refine go_iload (d_S_happened 19 rfl) rfl ?_
      obtain ⟨g_2, h⟩ := gd_some h
      obtain ⟨k_3, ek_3, h⟩ := ln_some h
      refine go_aald (c := 13) (d_S_happened 21 rfl) rfl (by decide) g_2 ?_
      rw [← ek_3]
      refine go_iload_n (d_S_happened 22 rfl) rfl rfl ?_
      refine go_iload_n (d_S_happened 23 rfl) rfl rfl ?_
      refine go_iload (d_S_happened 24 rfl) rfl ?_
      obtain ⟨g_7, h⟩ := gd_some h
      obtain ⟨r_4, o_5, h⟩ := bd_some h
      obtain ⟨z_6, h⟩ := nt_some h
      refine go_cN (As := [.int x2, .int x3, .int x4]) (rest := []) (st2 := [.int (r_4.2.1)]) (c2 := 0) (s2 := 0) rfl rfl rfl rfl (Ca_T_isFor hl o_5) z_6 (d_S_happened 26 rfl) cw_S_214 ⟨w_413, w_10⟩ (Nat.eq_of_beq_eq_true g_7) (by decide) rfl ⟨by decide, by decide⟩ rfl (Nat.le_of_ble_eq_true rfl) ⟨by decide, by decide⟩ ?_
      rcases br_some h with ⟨c_8, h⟩ | ⟨c_8, h⟩
      · refine go_if_eq (tgt := 49) (d_S_happened 29 rfl) (by decide) (fun _ => ?_) (fun q => absurd (of_decide_eq_true c_8) q)
        exact b_S_happened_49 hl _ ih (k1) (x2) (x3) (x4) (x5) (x6) (r_4.2.2.2) h
      · refine go_if_eq (tgt := 49) (d_S_happened 29 rfl) (by decide) (fun q => absurd q (of_decide_eq_false c_8)) (fun _ => ?_)
        refine go_aload_n (d_S_happened 32 rfl) rfl rfl ?_
        refine go_aload_n (d_S_happened 33 rfl) rfl rfl ?_
        refine go_iload (d_S_happened 34 rfl) rfl ?_
        refine go_aload_n (d_S_happened 36 rfl) rfl rfl ?_
        refine go_getI (d_S_happened 37 rfl) fl_S_101 rfl rfl ?_
        obtain ⟨r_9, o_10, h⟩ := bd_some h
        obtain ⟨z_11, h⟩ := nt_some h
        refine go_cV (As := [.ref (ad (k1)), .int x6, .int ((r_4.2.2.2 0 2))]) (rest := []) (st2 := [.int (r_9.2.1)]) (c2 := 0) (s2 := 0) rfl rfl rfl rfl (Ca_S_act hl o_10)  (d_S_happened 40 rfl) cw_S_224 ⟨w_391, w_7⟩ rfl (by decide) rfl ⟨by decide, by decide⟩ rfl (Nat.le_of_ble_eq_true rfl) ⟨by decide, by decide⟩ (fun _ => ?_) (fun q => absurd z_11 q)
        rcases br_some h with ⟨c_12, h⟩ | ⟨c_12, h⟩
        · refine go_if_eq (tgt := 49) (d_S_happened 43 rfl) (by decide) (fun _ => ?_) (fun q => absurd (of_decide_eq_true c_12) q)
          exact b_S_happened_49 hl _ ih (k1) (x2) (x3) (x4) (x5) (x6) (r_9.2.2.2) h
        · refine go_if_eq (tgt := 49) (d_S_happened 43 rfl) (by decide) (fun q => absurd q (of_decide_eq_false c_12)) (fun _ => ?_)
          refine go_iinc (y := (x5 + 1)) (lv' := [(0, .ref (ad (0))), (1, .ref (ad (k1))), (2, .int x2), (3, .int x3), (4, .int x4), (5, .int ((x5 + 1))), (6, .int x6)]) (d_S_happened 46 rfl) rfl rfl (by decide) rfl ?_
          exact b_S_happened_49 hl _ ih (k1) (x2) (x3) (x4) ((x5 + 1)) (x6) (r_9.2.2.2) h
def f_S_happened (k1 : Nat) (x2 : Int32) (x3 : Int32) (x4 : Int32) (v : go_V) : Option go_R := f_S_happened_6  FU (k1) (x2) (x3) (x4) ((0 : Int32)) ((0 : Int32)) (v)
set_option maxHeartbeats 4000000 in
set_option maxRecDepth 100000 in
theorem Ca_S_happened {l : Launch} {G : go_G} {ad : Nat → Nat} (hl : l.stackTraces = false) {r : go_R} {k1 : Nat} {x2 : Int32} {x3 : Int32} {x4 : Int32} {v : go_V} (h : f_S_happened k1 x2 x3 x4 v = some r) : Ca l G y_S_happened (.code y_S_happened c_S_happened 7 (some .int) :: go_TT) (rmD 2 0) 1 ad [.ref (ad (0)), .ref (ad (k1)), .int x2, .int x3, .int x4] v r := by
  unfold f_S_happened at h
  refine go_body (own := RS) (by decide) rfl (Nat.le_of_ble_eq_true rfl) ?_
  show Go l G M_S_happened go_Ex0 (go_E G ad 1 r 0 0) ad v [(0, .ref (ad (0))), (1, .ref (ad (k1))), (2, .int x2), (3, .int x3), (4, .int x4)] 0 [] 0 0
  refine go_iconst (x := (0 : Int32)) (d_S_happened 0 rfl) (by decide) ?_
  refine go_istore (lv' := [(0, .ref (ad (0))), (1, .ref (ad (k1))), (2, .int x2), (3, .int x3), (4, .int x4), (5, .int ((0 : Int32)))]) (d_S_happened 1 rfl) (by decide) rfl ?_
  refine go_iconst (x := (0 : Int32)) (d_S_happened 3 rfl) (by decide) ?_
  refine go_istore (lv' := [(0, .ref (ad (0))), (1, .ref (ad (k1))), (2, .int x2), (3, .int x3), (4, .int x4), (5, .int ((0 : Int32))), (6, .int ((0 : Int32)))]) (d_S_happened 4 rfl) (by decide) rfl ?_
  exact b_S_happened_6 hl  FU (k1) (x2) (x3) (x4) ((0 : Int32)) ((0 : Int32)) (v) h
abbrev M_S_unitsFor : go_M := (c_S_unitsFor, 5, (some .int), RS, [], rmD 1 0)
def f_S_unitsFor_32 (rec5 : Int32 → Int32 → Int32 → Int32 → go_V → Option go_R) (x1 : Int32) (x2 : Int32) (x3 : Int32) (x4 : Int32) (v : go_V) : Option go_R := rec5 (x1) (x2) (x3) ((x4 + 1)) (v)
set_option maxHeartbeats 4000000 in
set_option maxRecDepth 100000 in
theorem b_S_unitsFor_32 {l : Launch} {G : go_G} {ad : Nat → Nat} (hl : l.stackTraces = false) {r : go_R} (rec5 : Int32 → Int32 → Int32 → Int32 → go_V → Option go_R) (hrec5 : ∀ (x1 : Int32) (x2 : Int32) (x3 : Int32) (x4 : Int32) (v : go_V), rec5 x1 x2 x3 x4 v = some r → Go l G M_S_unitsFor go_Ex0 (go_E G ad 1 r 0 0) ad v [(0, .ref (ad (0))), (1, .int x1), (2, .int x2), (3, .int x3), (4, .int x4)] 5 [] 0 0) (x1 : Int32) (x2 : Int32) (x3 : Int32) (x4 : Int32) (v : go_V) (h : f_S_unitsFor_32 rec5 x1 x2 x3 x4 v = some r) : Go l G M_S_unitsFor go_Ex0 (go_E G ad 1 r 0 0) ad v [(0, .ref (ad (0))), (1, .int x1), (2, .int x2), (3, .int x3), (4, .int x4)] 32 [] 0 0 := by
  unfold f_S_unitsFor_32 at h
  refine go_iinc (y := (x4 + 1)) (lv' := [(0, .ref (ad (0))), (1, .int x1), (2, .int x2), (3, .int x3), (4, .int ((x4 + 1)))]) (d_S_unitsFor 32 rfl) rfl rfl (by decide) rfl ?_
  refine go_goto (tgt := 5) (d_S_unitsFor 35 rfl) (by decide) ?_
  exact hrec5 (x1) (x2) (x3) ((x4 + 1)) (v) h
def f_S_unitsFor_5  : Nat → Int32 → Int32 → Int32 → Int32 → go_V → Option go_R
  | 0, _, _, _, _, _ => none
  | n + 1, x1, x2, x3, x4, v => br (decide ((v 0 10) ≤ x4)) (some (0, x3, 0, v)) (gd (go_in x4 40) (ln (go_elt 15 x4.toNatClampNeg) (fun k_3 => gd (Nat.beq (go_cls (k_3)) 2) (bd (f_U_isFor k_3 x1 x2 v) (fun r_4 => nt r_4 (br (decide (r_4.2.1 = 0)) (f_S_unitsFor_32 (f_S_unitsFor_5 n) (x1) (x2) (x3) (x4) (r_4.2.2.2)) (f_S_unitsFor_32 (f_S_unitsFor_5 n) (x1) (x2) ((x3 + 1)) (x4) (r_4.2.2.2))))))))
set_option maxHeartbeats 4000000 in
set_option maxRecDepth 100000 in
theorem b_S_unitsFor_5 {l : Launch} {G : go_G} {ad : Nat → Nat} (hl : l.stackTraces = false) {r : go_R}  : ∀ (n : Nat) (x1 : Int32) (x2 : Int32) (x3 : Int32) (x4 : Int32) (v : go_V), f_S_unitsFor_5  n x1 x2 x3 x4 v = some r → Go l G M_S_unitsFor go_Ex0 (go_E G ad 1 r 0 0) ad v [(0, .ref (ad (0))), (1, .int x1), (2, .int x2), (3, .int x3), (4, .int x4)] 5 [] 0 0 := by
  intro n
  induction n with
  | zero =>
    intro x1 x2 x3 x4 v h
    cases h
  | succ n ih =>
    intro x1 x2 x3 x4 v h
    rw [f_S_unitsFor_5] at h
    refine go_iload (d_S_unitsFor 5 rfl) rfl ?_
    refine go_aload_n (d_S_unitsFor 7 rfl) rfl rfl ?_
    refine go_getI (d_S_unitsFor 8 rfl) fl_S_115 rfl rfl ?_
    rcases br_some h with ⟨c_1, h⟩ | ⟨c_1, h⟩
    · refine go_icmp_ge (tgt := 38) (d_S_unitsFor 11 rfl) (by decide) (fun _ => ?_) (fun q => absurd (of_decide_eq_true c_1) q)
      refine go_iload_n (d_S_unitsFor 38 rfl) rfl rfl ?_
      exact go_iret (d_S_unitsFor 39 rfl) rfl rfl (Option.some.inj h) (by decide) (by decide)
    · refine go_icmp_ge (tgt := 38) (d_S_unitsFor 11 rfl) (by decide) (fun q => absurd q (of_decide_eq_false c_1)) (fun _ => ?_)
      refine go_aload_n (d_S_unitsFor 14 rfl) rfl rfl ?_
      refine go_getR (d_S_unitsFor 15 rfl) fl_S_32 rfl rfl ?_
      show Go _ _ _ _ _ _ _ _ _ (.ref (ad (15)) :: []) _ _
      refine go_iload (d_S_unitsFor 18 rfl) rfl ?_
      obtain ⟨g_2, h⟩ := gd_some h
      obtain ⟨k_3, ek_3, h⟩ := ln_some h
      refine go_aald (c := 15) (d_S_unitsFor 20 rfl) rfl (by decide) g_2 ?_
      rw [← ek_3]
      refine go_iload_n (d_S_unitsFor 21 rfl) rfl rfl ?_
      refine go_iload_n (d_S_unitsFor 22 rfl) rfl rfl ?_
      obtain ⟨g_7, h⟩ := gd_some h
      obtain ⟨r_4, o_5, h⟩ := bd_some h
      obtain ⟨z_6, h⟩ := nt_some h
      refine go_cN (As := [.int x1, .int x2]) (rest := []) (st2 := [.int (r_4.2.1)]) (c2 := 0) (s2 := 0) rfl rfl rfl rfl (Ca_U_isFor hl o_5) z_6 (d_S_unitsFor 23 rfl) cw_S_244 ⟨w_458, w_14⟩ (Nat.eq_of_beq_eq_true g_7) (by decide) rfl ⟨by decide, by decide⟩ rfl (Nat.le_of_ble_eq_true rfl) ⟨by decide, by decide⟩ ?_
      rcases br_some h with ⟨c_8, h⟩ | ⟨c_8, h⟩
      · refine go_if_eq (tgt := 32) (d_S_unitsFor 26 rfl) (by decide) (fun _ => ?_) (fun q => absurd (of_decide_eq_true c_8) q)
        exact b_S_unitsFor_32 hl _ ih (x1) (x2) (x3) (x4) (r_4.2.2.2) h
      · refine go_if_eq (tgt := 32) (d_S_unitsFor 26 rfl) (by decide) (fun q => absurd q (of_decide_eq_false c_8)) (fun _ => ?_)
        refine go_iinc (y := (x3 + 1)) (lv' := [(0, .ref (ad (0))), (1, .int x1), (2, .int x2), (3, .int ((x3 + 1))), (4, .int x4)]) (d_S_unitsFor 29 rfl) rfl rfl (by decide) rfl ?_
        exact b_S_unitsFor_32 hl _ ih (x1) (x2) ((x3 + 1)) (x4) (r_4.2.2.2) h
def f_S_unitsFor (x1 : Int32) (x2 : Int32) (v : go_V) : Option go_R := f_S_unitsFor_5  FU (x1) (x2) ((0 : Int32)) ((0 : Int32)) (v)
set_option maxHeartbeats 4000000 in
set_option maxRecDepth 100000 in
theorem Ca_S_unitsFor {l : Launch} {G : go_G} {ad : Nat → Nat} (hl : l.stackTraces = false) {r : go_R} {x1 : Int32} {x2 : Int32} {v : go_V} (h : f_S_unitsFor x1 x2 v = some r) : Ca l G y_S_unitsFor (.code y_S_unitsFor c_S_unitsFor 5 (some .int) :: go_TT) (rmD 1 0) 1 ad [.ref (ad (0)), .int x1, .int x2] v r := by
  unfold f_S_unitsFor at h
  refine go_body (own := RS) (by decide) rfl (Nat.le_of_ble_eq_true rfl) ?_
  show Go l G M_S_unitsFor go_Ex0 (go_E G ad 1 r 0 0) ad v [(0, .ref (ad (0))), (1, .int x1), (2, .int x2)] 0 [] 0 0
  refine go_iconst (x := (0 : Int32)) (d_S_unitsFor 0 rfl) (by decide) ?_
  refine go_istore_n (lv' := [(0, .ref (ad (0))), (1, .int x1), (2, .int x2), (3, .int ((0 : Int32)))]) (d_S_unitsFor 1 rfl) rfl (by decide) rfl ?_
  refine go_iconst (x := (0 : Int32)) (d_S_unitsFor 2 rfl) (by decide) ?_
  refine go_istore (lv' := [(0, .ref (ad (0))), (1, .int x1), (2, .int x2), (3, .int ((0 : Int32))), (4, .int ((0 : Int32)))]) (d_S_unitsFor 3 rfl) (by decide) rfl ?_
  exact b_S_unitsFor_5 hl  FU (x1) (x2) ((0 : Int32)) ((0 : Int32)) (v) h
abbrev M_S_recallOne : go_M := (c_S_recallOne, 5, none, RS, [], rmD 1 0)
def f_S_recallOne_56 (rec5 : Int32 → Int32 → Int32 → Int32 → go_V → Option go_R) (x1 : Int32) (x2 : Int32) (x3 : Int32) (x4 : Int32) (v : go_V) : Option go_R := rec5 (x1) (x2) (x3) ((x4 + 1)) (v)
set_option maxHeartbeats 4000000 in
set_option maxRecDepth 100000 in
theorem b_S_recallOne_56 {l : Launch} {G : go_G} {ad : Nat → Nat} (hl : l.stackTraces = false) {r : go_R} (rec5 : Int32 → Int32 → Int32 → Int32 → go_V → Option go_R) (hrec5 : ∀ (x1 : Int32) (x2 : Int32) (x3 : Int32) (x4 : Int32) (v : go_V), rec5 x1 x2 x3 x4 v = some r → Go l G M_S_recallOne go_Ex0 (go_E G ad 0 r 0 0) ad v [(0, .ref (ad (0))), (1, .int x1), (2, .int x2), (3, .int x3), (4, .int x4)] 5 [] 0 0) (x1 : Int32) (x2 : Int32) (x3 : Int32) (x4 : Int32) (v : go_V) (h : f_S_recallOne_56 rec5 x1 x2 x3 x4 v = some r) : Go l G M_S_recallOne go_Ex0 (go_E G ad 0 r 0 0) ad v [(0, .ref (ad (0))), (1, .int x1), (2, .int x2), (3, .int x3), (4, .int x4)] 56 [] 0 0 := by
  unfold f_S_recallOne_56 at h
  refine go_iinc (y := (x4 + 1)) (lv' := [(0, .ref (ad (0))), (1, .int x1), (2, .int x2), (3, .int x3), (4, .int ((x4 + 1)))]) (d_S_recallOne 56 rfl) rfl rfl (by decide) rfl ?_
  refine go_goto (tgt := 5) (d_S_recallOne 59 rfl) (by decide) ?_
  exact hrec5 (x1) (x2) (x3) ((x4 + 1)) (v) h
def f_S_recallOne_53 (rec5 : Int32 → Int32 → Int32 → Int32 → go_V → Option go_R) (x1 : Int32) (x2 : Int32) (x3 : Int32) (x4 : Int32) (v : go_V) : Option go_R := f_S_recallOne_56 (rec5) (x1) (x2) (x4) (x4) (v)
set_option maxHeartbeats 4000000 in
set_option maxRecDepth 100000 in
theorem b_S_recallOne_53 {l : Launch} {G : go_G} {ad : Nat → Nat} (hl : l.stackTraces = false) {r : go_R} (rec5 : Int32 → Int32 → Int32 → Int32 → go_V → Option go_R) (hrec5 : ∀ (x1 : Int32) (x2 : Int32) (x3 : Int32) (x4 : Int32) (v : go_V), rec5 x1 x2 x3 x4 v = some r → Go l G M_S_recallOne go_Ex0 (go_E G ad 0 r 0 0) ad v [(0, .ref (ad (0))), (1, .int x1), (2, .int x2), (3, .int x3), (4, .int x4)] 5 [] 0 0) (x1 : Int32) (x2 : Int32) (x3 : Int32) (x4 : Int32) (v : go_V) (h : f_S_recallOne_53 rec5 x1 x2 x3 x4 v = some r) : Go l G M_S_recallOne go_Ex0 (go_E G ad 0 r 0 0) ad v [(0, .ref (ad (0))), (1, .int x1), (2, .int x2), (3, .int x3), (4, .int x4)] 53 [] 0 0 := by
  unfold f_S_recallOne_53 at h
  refine go_iload (d_S_recallOne 53 rfl) rfl ?_
  refine go_istore_n (lv' := [(0, .ref (ad (0))), (1, .int x1), (2, .int x2), (3, .int x4), (4, .int x4)]) (d_S_recallOne 55 rfl) rfl (by decide) rfl ?_
  exact b_S_recallOne_56 hl _ hrec5 (x1) (x2) (x4) (x4) (v) h
def f_S_recallOne_5  : Nat → Int32 → Int32 → Int32 → Int32 → go_V → Option go_R
  | 0, _, _, _, _, _ => none
  | n + 1, x1, x2, x3, x4, v => br (decide ((v 0 10) ≤ x4)) (br (decide (x3 = ((-1) : Int32))) (some (0, 0, 0, v)) (gd (go_in x3 40) (ln (go_elt 15 x3.toNatClampNeg) (fun k_4 => gd (Nat.beq (go_cls (k_4)) 2) (bd (f_U_setFree k_4 v) (fun r_5 => nt r_5 (some (0, 0, 0, r_5.2.2.2)))))))) (gd (go_in x4 40) (ln (go_elt 15 x4.toNatClampNeg) (fun k_10 => gd (Nat.beq (go_cls (k_10)) 2) (bd (f_U_isFor k_10 x1 x2 v) (fun r_11 => nt r_11 (br (decide (r_11.2.1 = 0)) (f_S_recallOne_56 (f_S_recallOne_5 n) (x1) (x2) (x3) (x4) (r_11.2.2.2)) (br (decide (x3 = ((-1) : Int32))) (f_S_recallOne_53 (f_S_recallOne_5 n) (x1) (x2) (x3) (x4) (r_11.2.2.2)) (gd (go_in x4 40) (ln (go_elt 15 x4.toNatClampNeg) (fun k_18 => gd (go_in x3 40) (ln (go_elt 15 x3.toNatClampNeg) (fun k_20 => gd (Nat.beq (go_cls (k_18)) 2) (bd (f_U_goesBackBefore k_18 k_20 r_11.2.2.2) (fun r_21 => nt r_21 (br (decide (r_21.2.1 = 0)) (f_S_recallOne_56 (f_S_recallOne_5 n) (x1) (x2) (x3) (x4) (r_21.2.2.2)) (f_S_recallOne_53 (f_S_recallOne_5 n) (x1) (x2) (x3) (x4) (r_21.2.2.2)))))))))))))))))
set_option maxHeartbeats 4000000 in
set_option maxRecDepth 100000 in
theorem b_S_recallOne_5 {l : Launch} {G : go_G} {ad : Nat → Nat} (hl : l.stackTraces = false) {r : go_R}  : ∀ (n : Nat) (x1 : Int32) (x2 : Int32) (x3 : Int32) (x4 : Int32) (v : go_V), f_S_recallOne_5  n x1 x2 x3 x4 v = some r → Go l G M_S_recallOne go_Ex0 (go_E G ad 0 r 0 0) ad v [(0, .ref (ad (0))), (1, .int x1), (2, .int x2), (3, .int x3), (4, .int x4)] 5 [] 0 0 := by
  intro n
  induction n with
  | zero =>
    intro x1 x2 x3 x4 v h
    cases h
  | succ n ih =>
    intro x1 x2 x3 x4 v h
    rw [f_S_recallOne_5] at h
    refine go_iload (d_S_recallOne 5 rfl) rfl ?_
    refine go_aload_n (d_S_recallOne 7 rfl) rfl rfl ?_
    refine go_getI (d_S_recallOne 8 rfl) fl_S_115 rfl rfl ?_
    rcases br_some h with ⟨c_1, h⟩ | ⟨c_1, h⟩
    · refine go_icmp_ge (tgt := 62) (d_S_recallOne 11 rfl) (by decide) (fun _ => ?_) (fun q => absurd (of_decide_eq_true c_1) q)
      refine go_iload_n (d_S_recallOne 62 rfl) rfl rfl ?_
      refine go_iconst (x := ((-1) : Int32)) (d_S_recallOne 63 rfl) (by decide) ?_
      rcases br_some h with ⟨c_2, h⟩ | ⟨c_2, h⟩
      · refine go_icmp_eq (tgt := 76) (d_S_recallOne 64 rfl) (by decide) (fun _ => ?_) (fun q => absurd (of_decide_eq_true c_2) q)
        exact go_vret (d_S_recallOne 76 rfl) rfl (Option.some.inj h) (by decide) (by decide)
      · refine go_icmp_eq (tgt := 76) (d_S_recallOne 64 rfl) (by decide) (fun q => absurd q (of_decide_eq_false c_2)) (fun _ => ?_)
        refine go_aload_n (d_S_recallOne 67 rfl) rfl rfl ?_
        refine go_getR (d_S_recallOne 68 rfl) fl_S_32 rfl rfl ?_
        show Go _ _ _ _ _ _ _ _ _ (.ref (ad (15)) :: []) _ _
        refine go_iload_n (d_S_recallOne 71 rfl) rfl rfl ?_
        obtain ⟨g_3, h⟩ := gd_some h
        obtain ⟨k_4, ek_4, h⟩ := ln_some h
        refine go_aald (c := 15) (d_S_recallOne 72 rfl) rfl (by decide) g_3 ?_
        rw [← ek_4]
        obtain ⟨g_8, h⟩ := gd_some h
        obtain ⟨r_5, o_6, h⟩ := bd_some h
        obtain ⟨z_7, h⟩ := nt_some h
        refine go_cN (As := []) (rest := []) (st2 := []) (c2 := 0) (s2 := 0) rfl rfl rfl rfl (Ca_U_setFree hl o_6) z_7 (d_S_recallOne 73 rfl) cw_S_121 ⟨w_375, w_5⟩ (Nat.eq_of_beq_eq_true g_8) (by decide) rfl ⟨by decide, by decide⟩ rfl (Nat.le_of_ble_eq_true rfl) ⟨by decide, by decide⟩ ?_
        exact go_vret (d_S_recallOne 76 rfl) rfl (Option.some.inj h) (by decide) (by decide)
    · refine go_icmp_ge (tgt := 62) (d_S_recallOne 11 rfl) (by decide) (fun q => absurd q (of_decide_eq_false c_1)) (fun _ => ?_)
      refine go_aload_n (d_S_recallOne 14 rfl) rfl rfl ?_
      refine go_getR (d_S_recallOne 15 rfl) fl_S_32 rfl rfl ?_
      show Go _ _ _ _ _ _ _ _ _ (.ref (ad (15)) :: []) _ _
      refine go_iload (d_S_recallOne 18 rfl) rfl ?_
      obtain ⟨g_9, h⟩ := gd_some h
      obtain ⟨k_10, ek_10, h⟩ := ln_some h
      refine go_aald (c := 15) (d_S_recallOne 20 rfl) rfl (by decide) g_9 ?_
      rw [← ek_10]
      refine go_iload_n (d_S_recallOne 21 rfl) rfl rfl ?_
      refine go_iload_n (d_S_recallOne 22 rfl) rfl rfl ?_
      obtain ⟨g_14, h⟩ := gd_some h
      obtain ⟨r_11, o_12, h⟩ := bd_some h
      obtain ⟨z_13, h⟩ := nt_some h
      refine go_cN (As := [.int x1, .int x2]) (rest := []) (st2 := [.int (r_11.2.1)]) (c2 := 0) (s2 := 0) rfl rfl rfl rfl (Ca_U_isFor hl o_12) z_13 (d_S_recallOne 23 rfl) cw_S_244 ⟨w_458, w_14⟩ (Nat.eq_of_beq_eq_true g_14) (by decide) rfl ⟨by decide, by decide⟩ rfl (Nat.le_of_ble_eq_true rfl) ⟨by decide, by decide⟩ ?_
      rcases br_some h with ⟨c_15, h⟩ | ⟨c_15, h⟩
      · refine go_if_eq (tgt := 56) (d_S_recallOne 26 rfl) (by decide) (fun _ => ?_) (fun q => absurd (of_decide_eq_true c_15) q)
        exact b_S_recallOne_56 hl _ ih (x1) (x2) (x3) (x4) (r_11.2.2.2) h
      · refine go_if_eq (tgt := 56) (d_S_recallOne 26 rfl) (by decide) (fun q => absurd q (of_decide_eq_false c_15)) (fun _ => ?_)
        refine go_iload_n (d_S_recallOne 29 rfl) rfl rfl ?_
        refine go_iconst (x := ((-1) : Int32)) (d_S_recallOne 30 rfl) (by decide) ?_
        rcases br_some h with ⟨c_16, h⟩ | ⟨c_16, h⟩
        · refine go_icmp_eq (tgt := 53) (d_S_recallOne 31 rfl) (by decide) (fun _ => ?_) (fun q => absurd (of_decide_eq_true c_16) q)
          exact b_S_recallOne_53 hl _ ih (x1) (x2) (x3) (x4) (r_11.2.2.2) h
        · refine go_icmp_eq (tgt := 53) (d_S_recallOne 31 rfl) (by decide) (fun q => absurd q (of_decide_eq_false c_16)) (fun _ => ?_)
          refine go_aload_n (d_S_recallOne 34 rfl) rfl rfl ?_
          refine go_getR (d_S_recallOne 35 rfl) fl_S_32 rfl rfl ?_
          show Go _ _ _ _ _ _ _ _ _ (.ref (ad (15)) :: []) _ _
          refine go_iload (d_S_recallOne 38 rfl) rfl ?_
          obtain ⟨g_17, h⟩ := gd_some h
          obtain ⟨k_18, ek_18, h⟩ := ln_some h
          refine go_aald (c := 15) (d_S_recallOne 40 rfl) rfl (by decide) g_17 ?_
          rw [← ek_18]
          refine go_aload_n (d_S_recallOne 41 rfl) rfl rfl ?_
          refine go_getR (d_S_recallOne 42 rfl) fl_S_32 rfl rfl ?_
          show Go _ _ _ _ _ _ _ _ _ (.ref (ad (15)) :: .ref (ad (k_18)) :: []) _ _
          refine go_iload_n (d_S_recallOne 45 rfl) rfl rfl ?_
          obtain ⟨g_19, h⟩ := gd_some h
          obtain ⟨k_20, ek_20, h⟩ := ln_some h
          refine go_aald (c := 15) (d_S_recallOne 46 rfl) rfl (by decide) g_19 ?_
          rw [← ek_20]
          obtain ⟨g_24, h⟩ := gd_some h
          obtain ⟨r_21, o_22, h⟩ := bd_some h
          obtain ⟨z_23, h⟩ := nt_some h
          refine go_cN (As := [.ref (ad (k_20))]) (rest := []) (st2 := [.int (r_21.2.1)]) (c2 := 0) (s2 := 0) rfl rfl rfl rfl (Ca_U_goesBackBefore hl o_22) z_23 (d_S_recallOne 47 rfl) cw_S_254 ⟨w_469, w_16⟩ (Nat.eq_of_beq_eq_true g_24) (by decide) rfl ⟨by decide, by decide⟩ rfl (Nat.le_of_ble_eq_true rfl) ⟨by decide, by decide⟩ ?_
          rcases br_some h with ⟨c_25, h⟩ | ⟨c_25, h⟩
          · refine go_if_eq (tgt := 56) (d_S_recallOne 50 rfl) (by decide) (fun _ => ?_) (fun q => absurd (of_decide_eq_true c_25) q)
            exact b_S_recallOne_56 hl _ ih (x1) (x2) (x3) (x4) (r_21.2.2.2) h
          · refine go_if_eq (tgt := 56) (d_S_recallOne 50 rfl) (by decide) (fun q => absurd q (of_decide_eq_false c_25)) (fun _ => ?_)
            exact b_S_recallOne_53 hl _ ih (x1) (x2) (x3) (x4) (r_21.2.2.2) h
def f_S_recallOne (x1 : Int32) (x2 : Int32) (v : go_V) : Option go_R := f_S_recallOne_5  FU (x1) (x2) (((-1) : Int32)) ((0 : Int32)) (v)
set_option maxHeartbeats 4000000 in
set_option maxRecDepth 100000 in
theorem Ca_S_recallOne {l : Launch} {G : go_G} {ad : Nat → Nat} (hl : l.stackTraces = false) {r : go_R} {x1 : Int32} {x2 : Int32} {v : go_V} (h : f_S_recallOne x1 x2 v = some r) : Ca l G y_S_recallOne (.code y_S_recallOne c_S_recallOne 5 none :: go_TT) (rmD 1 0) 0 ad [.ref (ad (0)), .int x1, .int x2] v r := by
  unfold f_S_recallOne at h
  refine go_body (own := RS) (by decide) rfl (Nat.le_of_ble_eq_true rfl) ?_
  show Go l G M_S_recallOne go_Ex0 (go_E G ad 0 r 0 0) ad v [(0, .ref (ad (0))), (1, .int x1), (2, .int x2)] 0 [] 0 0
  refine go_iconst (x := ((-1) : Int32)) (d_S_recallOne 0 rfl) (by decide) ?_
  refine go_istore_n (lv' := [(0, .ref (ad (0))), (1, .int x1), (2, .int x2), (3, .int (((-1) : Int32)))]) (d_S_recallOne 1 rfl) rfl (by decide) rfl ?_
  refine go_iconst (x := (0 : Int32)) (d_S_recallOne 2 rfl) (by decide) ?_
  refine go_istore (lv' := [(0, .ref (ad (0))), (1, .int x1), (2, .int x2), (3, .int (((-1) : Int32))), (4, .int ((0 : Int32)))]) (d_S_recallOne 3 rfl) (by decide) rfl ?_
  exact b_S_recallOne_5 hl  FU (x1) (x2) (((-1) : Int32)) ((0 : Int32)) (v) h
abbrev M_S_recallTooMuch : go_M := (c_S_recallTooMuch, 6, (some .int), RS, [], rmD 2 0)
def f_S_recallTooMuch_17  : Nat → Int32 → Int32 → Int32 → Int32 → Int32 → go_V → Option go_R
  | 0, _, _, _, _, _, _ => none
  | n + 1, x1, x2, x3, x4, x5, v => br (decide (x4 ≤ x5)) (some (0, x4, 0, v)) (bd (f_S_recallOne x1 x2 v) (fun r_2 => nt r_2 (f_S_recallTooMuch_17 n (x1) (x2) (x3) (x4) ((x5 + 1)) (r_2.2.2.2))))
set_option maxHeartbeats 4000000 in
set_option maxRecDepth 100000 in
theorem b_S_recallTooMuch_17 {l : Launch} {G : go_G} {ad : Nat → Nat} (hl : l.stackTraces = false) {r : go_R}  : ∀ (n : Nat) (x1 : Int32) (x2 : Int32) (x3 : Int32) (x4 : Int32) (x5 : Int32) (v : go_V), f_S_recallTooMuch_17  n x1 x2 x3 x4 x5 v = some r → Go l G M_S_recallTooMuch go_Ex0 (go_E G ad 1 r 0 0) ad v [(0, .ref (ad (0))), (1, .int x1), (2, .int x2), (3, .int x3), (4, .int x4), (5, .int x5)] 17 [] 0 0 := by
  intro n
  induction n with
  | zero =>
    intro x1 x2 x3 x4 x5 v h
    cases h
  | succ n ih =>
    intro x1 x2 x3 x4 x5 v h
    rw [f_S_recallTooMuch_17] at h
    refine go_iload (d_S_recallTooMuch 17 rfl) rfl ?_
    refine go_iload (d_S_recallTooMuch 19 rfl) rfl ?_
    rcases br_some h with ⟨c_1, h⟩ | ⟨c_1, h⟩
    · refine go_icmp_ge (tgt := 36) (d_S_recallTooMuch 21 rfl) (by decide) (fun _ => ?_) (fun q => absurd (of_decide_eq_true c_1) q)
      refine go_iload (d_S_recallTooMuch 36 rfl) rfl ?_
      exact go_iret (d_S_recallTooMuch 38 rfl) rfl rfl (Option.some.inj h) (by decide) (by decide)
    · refine go_icmp_ge (tgt := 36) (d_S_recallTooMuch 21 rfl) (by decide) (fun q => absurd q (of_decide_eq_false c_1)) (fun _ => ?_)
      refine go_aload_n (d_S_recallTooMuch 24 rfl) rfl rfl ?_
      refine go_iload_n (d_S_recallTooMuch 25 rfl) rfl rfl ?_
      refine go_iload_n (d_S_recallTooMuch 26 rfl) rfl rfl ?_
      obtain ⟨r_2, o_3, h⟩ := bd_some h
      obtain ⟨z_4, h⟩ := nt_some h
      refine go_cV (As := [.int x1, .int x2]) (rest := []) (st2 := []) (c2 := 0) (s2 := 0) rfl rfl rfl rfl (Ca_S_recallOne hl o_3)  (d_S_recallTooMuch 27 rfl) cw_S_250 ⟨w_465, w_15⟩ rfl (by decide) rfl ⟨by decide, by decide⟩ rfl (Nat.le_of_ble_eq_true rfl) ⟨by decide, by decide⟩ (fun _ => ?_) (fun q => absurd z_4 q)
      refine go_iinc (y := (x5 + 1)) (lv' := [(0, .ref (ad (0))), (1, .int x1), (2, .int x2), (3, .int x3), (4, .int x4), (5, .int ((x5 + 1)))]) (d_S_recallTooMuch 30 rfl) rfl rfl (by decide) rfl ?_
      refine go_goto (tgt := 17) (d_S_recallTooMuch 33 rfl) (by decide) ?_
      exact ih (x1) (x2) (x3) (x4) ((x5 + 1)) (r_2.2.2.2) h
def f_S_recallTooMuch (x1 : Int32) (x2 : Int32) (x3 : Int32) (v : go_V) : Option go_R := bd (f_S_unitsFor x1 x2 v) (fun r_1 => nt r_1 (f_S_recallTooMuch_17  FU (x1) (x2) (x3) ((if (r_1.2.1 - x3) < (0 : Int32) then (0 : Int32) else (r_1.2.1 - x3))) ((0 : Int32)) (r_1.2.2.2)))
set_option maxHeartbeats 4000000 in
set_option maxRecDepth 100000 in
theorem Ca_S_recallTooMuch {l : Launch} {G : go_G} {ad : Nat → Nat} (hl : l.stackTraces = false) {r : go_R} {x1 : Int32} {x2 : Int32} {x3 : Int32} {v : go_V} (h : f_S_recallTooMuch x1 x2 x3 v = some r) : Ca l G y_S_recallTooMuch (.code y_S_recallTooMuch c_S_recallTooMuch 6 (some .int) :: go_TT) (rmD 2 0) 1 ad [.ref (ad (0)), .int x1, .int x2, .int x3] v r := by
  unfold f_S_recallTooMuch at h
  refine go_body (own := RS) (by decide) rfl (Nat.le_of_ble_eq_true rfl) ?_
  show Go l G M_S_recallTooMuch go_Ex0 (go_E G ad 1 r 0 0) ad v [(0, .ref (ad (0))), (1, .int x1), (2, .int x2), (3, .int x3)] 0 [] 0 0
  refine go_aload_n (d_S_recallTooMuch 0 rfl) rfl rfl ?_
  refine go_iload_n (d_S_recallTooMuch 1 rfl) rfl rfl ?_
  refine go_iload_n (d_S_recallTooMuch 2 rfl) rfl rfl ?_
  obtain ⟨r_1, o_2, h⟩ := bd_some h
  obtain ⟨z_3, h⟩ := nt_some h
  refine go_cV (As := [.int x1, .int x2]) (rest := []) (st2 := [.int (r_1.2.1)]) (c2 := 0) (s2 := 0) rfl rfl rfl rfl (Ca_S_unitsFor hl o_2)  (d_S_recallTooMuch 3 rfl) cw_S_177 ⟨w_454, w_13⟩ rfl (by decide) rfl ⟨by decide, by decide⟩ rfl (Nat.le_of_ble_eq_true rfl) ⟨by decide, by decide⟩ (fun _ => ?_) (fun q => absurd z_3 q)
  refine go_iload_n (d_S_recallTooMuch 6 rfl) rfl rfl ?_
  refine go_isub (d_S_recallTooMuch 7 rfl) ?_
  refine go_iconst (x := (0 : Int32)) (d_S_recallTooMuch 8 rfl) (by decide) ?_
  refine go_max (d_S_recallTooMuch 9 rfl) mw_S_247 ⟨by decide, Nat.le_of_ble_eq_true rfl, by decide, by decide⟩ ?_
  refine go_istore (lv' := [(0, .ref (ad (0))), (1, .int x1), (2, .int x2), (3, .int x3), (4, .int ((if (r_1.2.1 - x3) < (0 : Int32) then (0 : Int32) else (r_1.2.1 - x3))))]) (d_S_recallTooMuch 12 rfl) (by decide) rfl ?_
  refine go_iconst (x := (0 : Int32)) (d_S_recallTooMuch 14 rfl) (by decide) ?_
  refine go_istore (lv' := [(0, .ref (ad (0))), (1, .int x1), (2, .int x2), (3, .int x3), (4, .int ((if (r_1.2.1 - x3) < (0 : Int32) then (0 : Int32) else (r_1.2.1 - x3)))), (5, .int ((0 : Int32)))]) (d_S_recallTooMuch 15 rfl) (by decide) rfl ?_
  exact b_S_recallTooMuch_17 hl  FU (x1) (x2) (x3) ((if (r_1.2.1 - x3) < (0 : Int32) then (0 : Int32) else (r_1.2.1 - x3))) ((0 : Int32)) (r_1.2.2.2) h
abbrev M_S_knownUnit : go_M := (c_S_knownUnit, 2, (some (.object "SecondWaves$Unit")), RS, [], rmD 0 1)
def f_S_knownUnit_12  (x1 : Int32) (v : go_V) : Option go_R := some (1, 0, 0, v)
set_option maxHeartbeats 4000000 in
set_option maxRecDepth 100000 in
theorem b_S_knownUnit_12 {l : Launch} {G : go_G} {ad : Nat → Nat} (hl : l.stackTraces = false) {r : go_R}  (x1 : Int32) (v : go_V) (h : f_S_knownUnit_12  x1 v = some r) : Go l G M_S_knownUnit go_Ex0 (go_E G ad 2 r 1 6) ad v [(0, .ref (ad (0))), (1, .int x1)] 12 [] 0 0 := by
  unfold f_S_knownUnit_12 at h
  exact go_thr (text := "no such unit") hl xs_65_69_1 (by decide +kernel) rfl rfl (d_S_knownUnit 12 rfl) (d_S_knownUnit 15 rfl) (d_S_knownUnit 16 rfl) (d_S_knownUnit 18 rfl) (d_S_knownUnit 21 rfl) ⟨by decide, Nat.le_of_ble_eq_true rfl, by decide, by decide⟩ (Option.some.inj h) (by decide) (by decide)
def f_S_knownUnit (x1 : Int32) (v : go_V) : Option go_R := br (decide (x1 < 0)) (f_S_knownUnit_12  (x1) (v)) (br (decide (x1 < (v 0 10))) (gd (go_in x1 40) (ln (go_elt 15 x1.toNatClampNeg) (fun k_4 => some (0, 0, k_4, v)))) (f_S_knownUnit_12  (x1) (v)))
set_option maxHeartbeats 4000000 in
set_option maxRecDepth 100000 in
theorem Ca_S_knownUnit {l : Launch} {G : go_G} {ad : Nat → Nat} (hl : l.stackTraces = false) {r : go_R} {x1 : Int32} {v : go_V} (h : f_S_knownUnit x1 v = some r) : Ca l G y_S_knownUnit (.code y_S_knownUnit c_S_knownUnit 2 (some (.object "SecondWaves$Unit")) :: go_TT) (rmD 0 1) 2 ad [.ref (ad (0)), .int x1] v r := by
  unfold f_S_knownUnit at h
  refine go_body (own := RS) (by decide) rfl (Nat.le_of_ble_eq_true rfl) ?_
  show Go l G M_S_knownUnit go_Ex0 (go_E G ad 2 r 1 6) ad v [(0, .ref (ad (0))), (1, .int x1)] 0 [] 0 0
  refine go_iload_n (d_S_knownUnit 0 rfl) rfl rfl ?_
  rcases br_some h with ⟨c_1, h⟩ | ⟨c_1, h⟩
  · refine go_if_lt (tgt := 12) (d_S_knownUnit 1 rfl) (by decide) (fun _ => ?_) (fun q => absurd (of_decide_eq_true c_1) q)
    exact b_S_knownUnit_12 hl  (x1) (v) h
  · refine go_if_lt (tgt := 12) (d_S_knownUnit 1 rfl) (by decide) (fun q => absurd q (of_decide_eq_false c_1)) (fun _ => ?_)
    refine go_iload_n (d_S_knownUnit 4 rfl) rfl rfl ?_
    refine go_aload_n (d_S_knownUnit 5 rfl) rfl rfl ?_
    refine go_getI (d_S_knownUnit 6 rfl) fl_S_115 rfl rfl ?_
    rcases br_some h with ⟨c_2, h⟩ | ⟨c_2, h⟩
    · refine go_icmp_lt (tgt := 22) (d_S_knownUnit 9 rfl) (by decide) (fun _ => ?_) (fun q => absurd (of_decide_eq_true c_2) q)
      refine go_aload_n (d_S_knownUnit 22 rfl) rfl rfl ?_
      refine go_getR (d_S_knownUnit 23 rfl) fl_S_32 rfl rfl ?_
      show Go _ _ _ _ _ _ _ _ _ (.ref (ad (15)) :: []) _ _
      refine go_iload_n (d_S_knownUnit 26 rfl) rfl rfl ?_
      obtain ⟨g_3, h⟩ := gd_some h
      obtain ⟨k_4, ek_4, h⟩ := ln_some h
      refine go_aald (c := 15) (d_S_knownUnit 27 rfl) rfl (by decide) g_3 ?_
      rw [← ek_4]
      exact go_aret (d_S_knownUnit 28 rfl) rfl (Option.some.inj h) (by decide) (by decide)
    · refine go_icmp_lt (tgt := 22) (d_S_knownUnit 9 rfl) (by decide) (fun q => absurd q (of_decide_eq_false c_2)) (fun _ => ?_)
      exact b_S_knownUnit_12 hl  (x1) (v) h
