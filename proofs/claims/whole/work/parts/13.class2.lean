/-! read back by wip/whole/dec.py: a function a method, and the rows that tie them -/
abbrev M_S_row : go_M := (c_S_row, 4, none, RS, [], rmD 1 3)
def f_S_row (x1 : Int32) (x2 : Int32) (x3 : Int32) (v : go_V) : Option go_R := bd (f_S_refuseUnknownStep x1 v) (fun r_1 => tr r_1 (bd (f_S_refuseUnknownSkill x2 r_1.2.2.2) (fun r_4 => tr r_4 (bd (f_S_refuseOutside x3 (0 : Int32) (30 : Int32) r_4.2.2.2) (fun r_7 => tr r_7 (gd (go_in x1 10) (ln (go_elt 1 x1.toNatClampNeg) (fun k_11 => gd (Nat.beq (go_cls (k_11)) 10) (gd (go_in x2 (go_len (k_11))) (ln (u2 r_7.2.2.2 (k_11) x2.toNatClampNeg x3) (fun v_14 => some (0, 0, 0, v_14))))))))))))
set_option maxHeartbeats 4000000 in
set_option maxRecDepth 100000 in
theorem Ca_S_row {l : Launch} {G : go_G} {ad : Nat → Nat} (hl : l.stackTraces = false) {r : go_R} {x1 : Int32} {x2 : Int32} {x3 : Int32} {v : go_V} (h : f_S_row x1 x2 x3 v = some r) : Ca l G y_S_row (.code y_S_row c_S_row 4 none :: go_TT) (rmD 1 3) 0 ad [.ref (ad (0)), .int x1, .int x2, .int x3] v r := by
  unfold f_S_row at h
  refine go_body (own := RS) (by decide) rfl (Nat.le_of_ble_eq_true rfl) ?_
  show Go l G M_S_row go_Ex0 (go_E G ad 0 r 3 18) ad v [(0, .ref (ad (0))), (1, .int x1), (2, .int x2), (3, .int x3)] 0 [] 0 0
  refine go_iload_n (d_S_row 0 rfl) rfl rfl ?_
  obtain ⟨r_1, o_2, h⟩ := bd_some h
  rcases tr_some h with ⟨z_3, h⟩ | ⟨z_3, h⟩
  · refine go_cS (As := [.int x1]) (rest := []) (st2 := []) (c2 := 1) (s2 := 6) rfl rfl rfl rfl (Ca_S_refuseUnknownStep hl o_2)  (d_S_row 1 rfl) cw_S_39 w_189 ⟨by decide, by decide⟩ rfl (Nat.le_of_ble_eq_true rfl) ⟨by decide, by decide⟩ (fun _ => ?_) (fun q => absurd z_3 q)
    refine go_iload_n (d_S_row 4 rfl) rfl rfl ?_
    obtain ⟨r_4, o_5, h⟩ := bd_some h
    rcases tr_some h with ⟨z_6, h⟩ | ⟨z_6, h⟩
    · refine go_cS (As := [.int x2]) (rest := []) (st2 := []) (c2 := 2) (s2 := 12) rfl rfl rfl rfl (Ca_S_refuseUnknownSkill hl o_5)  (d_S_row 5 rfl) cw_S_43 w_261 ⟨by decide, by decide⟩ rfl (Nat.le_of_ble_eq_true rfl) ⟨by decide, by decide⟩ (fun _ => ?_) (fun q => absurd z_6 q)
      refine go_iload_n (d_S_row 8 rfl) rfl rfl ?_
      refine go_iconst (x := (0 : Int32)) (d_S_row 9 rfl) (by decide) ?_
      refine go_bipush (x := (30 : Int32)) (d_S_row 10 rfl) (by decide) ?_
      obtain ⟨r_7, o_8, h⟩ := bd_some h
      rcases tr_some h with ⟨z_9, h⟩ | ⟨z_9, h⟩
      · refine go_cS (As := [.int x3, .int ((0 : Int32)), .int ((30 : Int32))]) (rest := []) (st2 := []) (c2 := 3) (s2 := 18) rfl rfl rfl rfl (Ca_S_refuseOutside hl o_8)  (d_S_row 12 rfl) cw_S_46 w_265 ⟨by decide, by decide⟩ rfl (Nat.le_of_ble_eq_true rfl) ⟨by decide, by decide⟩ (fun _ => ?_) (fun q => absurd z_9 q)
        refine go_aload_n (d_S_row 15 rfl) rfl rfl ?_
        refine go_getR (d_S_row 16 rfl) fl_S_11 rfl rfl ?_
        show Go _ _ _ _ _ _ _ _ _ (.ref (ad (1)) :: []) _ _
        refine go_iload_n (d_S_row 19 rfl) rfl rfl ?_
        obtain ⟨g_10, h⟩ := gd_some h
        obtain ⟨k_11, ek_11, h⟩ := ln_some h
        refine go_aald (c := 16) (d_S_row 20 rfl) rfl (by decide) g_10 ?_
        rw [← ek_11]
        refine go_iload_n (d_S_row 21 rfl) rfl rfl ?_
        refine go_iload_n (d_S_row 22 rfl) rfl rfl ?_
        obtain ⟨g_12, h⟩ := gd_some h
        obtain ⟨g_13, h⟩ := gd_some h
        obtain ⟨v_14, ev_14, h⟩ := ln_some h
        refine go_iast (y := x3) (d_S_row 23 rfl) (Nat.eq_of_beq_eq_true g_12) g_13 ?_
        rw [← ev_14]
        exact go_vret (d_S_row 24 rfl) rfl (Option.some.inj h) (by decide) (by decide)
      · exact go_cS (As := [.int x3, .int ((0 : Int32)), .int ((30 : Int32))]) (rest := []) (st2 := []) (c2 := 3) (s2 := 18) rfl rfl rfl rfl (Ca_S_refuseOutside hl o_8)  (d_S_row 12 rfl) cw_S_46 w_265 ⟨by decide, by decide⟩ rfl (Nat.le_of_ble_eq_true rfl) ⟨by decide, by decide⟩ (fun q => absurd q z_9) (fun q => gx_out q rfl h (by decide) (by decide))
    · exact go_cS (As := [.int x2]) (rest := []) (st2 := []) (c2 := 2) (s2 := 12) rfl rfl rfl rfl (Ca_S_refuseUnknownSkill hl o_5)  (d_S_row 5 rfl) cw_S_43 w_261 ⟨by decide, by decide⟩ rfl (Nat.le_of_ble_eq_true rfl) ⟨by decide, by decide⟩ (fun q => absurd q z_6) (fun q => gx_out q rfl h (by decide) (by decide))
  · exact go_cS (As := [.int x1]) (rest := []) (st2 := []) (c2 := 1) (s2 := 6) rfl rfl rfl rfl (Ca_S_refuseUnknownStep hl o_2)  (d_S_row 1 rfl) cw_S_39 w_189 ⟨by decide, by decide⟩ rfl (Nat.le_of_ble_eq_true rfl) ⟨by decide, by decide⟩ (fun q => absurd q z_3) (fun q => gx_out q rfl h (by decide) (by decide))
abbrev M_S_top : go_M := (c_S_top, 2, none, RS, [], rmD 1 2)
def f_S_top (x1 : Int32) (v : go_V) : Option go_R := bd (f_S_refuseUnknownStep x1 v) (fun r_1 => tr r_1 (bd (f_S_isAnyOpenAbove x1 r_1.2.2.2) (fun r_4 => nt r_4 (br (decide (r_4.2.1 = 0)) (ln (u2 r_4.2.2.2 0 1 x1) (fun v_8 => some (0, 0, 0, v_8))) (some (3, 0, 0, r_4.2.2.2))))))
set_option maxHeartbeats 4000000 in
set_option maxRecDepth 100000 in
theorem Ca_S_top {l : Launch} {G : go_G} {ad : Nat → Nat} (hl : l.stackTraces = false) {r : go_R} {x1 : Int32} {v : go_V} (h : f_S_top x1 v = some r) : Ca l G y_S_top (.code y_S_top c_S_top 2 none :: go_TT) (rmD 1 2) 0 ad [.ref (ad (0)), .int x1] v r := by
  unfold f_S_top at h
  refine go_body (own := RS) (by decide) rfl (Nat.le_of_ble_eq_true rfl) ?_
  show Go l G M_S_top go_Ex0 (go_E G ad 0 r 2 12) ad v [(0, .ref (ad (0))), (1, .int x1)] 0 [] 0 0
  refine go_iload_n (d_S_top 0 rfl) rfl rfl ?_
  obtain ⟨r_1, o_2, h⟩ := bd_some h
  rcases tr_some h with ⟨z_3, h⟩ | ⟨z_3, h⟩
  · refine go_cS (As := [.int x1]) (rest := []) (st2 := []) (c2 := 1) (s2 := 6) rfl rfl rfl rfl (Ca_S_refuseUnknownStep hl o_2)  (d_S_top 1 rfl) cw_S_39 w_189 ⟨by decide, by decide⟩ rfl (Nat.le_of_ble_eq_true rfl) ⟨by decide, by decide⟩ (fun _ => ?_) (fun q => absurd z_3 q)
    refine go_aload_n (d_S_top 4 rfl) rfl rfl ?_
    refine go_iload_n (d_S_top 5 rfl) rfl rfl ?_
    obtain ⟨r_4, o_5, h⟩ := bd_some h
    obtain ⟨z_6, h⟩ := nt_some h
    refine go_cV (As := [.int x1]) (rest := []) (st2 := [.int (r_4.2.1)]) (c2 := 1) (s2 := 6) rfl rfl rfl rfl (Ca_S_isAnyOpenAbove hl o_5)  (d_S_top 6 rfl) cw_S_50 ⟨w_293, w_1⟩ rfl (by decide) rfl ⟨by decide, by decide⟩ rfl (Nat.le_of_ble_eq_true rfl) ⟨by decide, by decide⟩ (fun _ => ?_) (fun q => absurd z_6 q)
    rcases br_some h with ⟨c_7, h⟩ | ⟨c_7, h⟩
    · refine go_if_eq (tgt := 22) (d_S_top 9 rfl) (by decide) (fun _ => ?_) (fun q => absurd (of_decide_eq_true c_7) q)
      refine go_aload_n (d_S_top 22 rfl) rfl rfl ?_
      refine go_iload_n (d_S_top 23 rfl) rfl rfl ?_
      obtain ⟨v_8, ev_8, h⟩ := ln_some h
      refine go_putI (x := x1) (d_S_top 24 rfl) fp_S_61 rfl rfl rfl rfl ?_
      rw [← ev_8]
      exact go_vret (d_S_top 27 rfl) rfl (Option.some.inj h) (by decide) (by decide)
    · refine go_if_eq (tgt := 22) (d_S_top 9 rfl) (by decide) (fun q => absurd q (of_decide_eq_false c_7)) (fun _ => ?_)
      exact go_thr (text := "an open incident is above this step") hl xs_54_58_3 (by decide +kernel) rfl rfl (d_S_top 12 rfl) (d_S_top 15 rfl) (d_S_top 16 rfl) (d_S_top 18 rfl) (d_S_top 21 rfl) ⟨by decide, Nat.le_of_ble_eq_true rfl, by decide, by decide⟩ (Option.some.inj h) (by decide) (by decide)
  · exact go_cS (As := [.int x1]) (rest := []) (st2 := []) (c2 := 1) (s2 := 6) rfl rfl rfl rfl (Ca_S_refuseUnknownStep hl o_2)  (d_S_top 1 rfl) cw_S_39 w_189 ⟨by decide, by decide⟩ rfl (Nat.le_of_ble_eq_true rfl) ⟨by decide, by decide⟩ (fun q => absurd q z_3) (fun q => gx_out q rfl h (by decide) (by decide))
abbrev M_S_trigger : go_M := (c_S_trigger, 6, (some .int), RS, [], rmD 1 4)
def f_S_trigger_9  (x1 : Int32) (x2 : Int32) (x3 : Int32) (x4 : Int32) (v : go_V) : Option go_R := some (1, 0, 0, v)
set_option maxHeartbeats 4000000 in
set_option maxRecDepth 100000 in
theorem b_S_trigger_9 {l : Launch} {G : go_G} {ad : Nat → Nat} (hl : l.stackTraces = false) {r : go_R}  (x1 : Int32) (x2 : Int32) (x3 : Int32) (x4 : Int32) (v : go_V) (h : f_S_trigger_9  x1 x2 x3 x4 v = some r) : Go l G M_S_trigger go_Ex0 (go_E G ad 1 r 4 24) ad v [(0, .ref (ad (0))), (1, .int x1), (2, .int x2), (3, .int x3), (4, .int x4)] 9 [] 0 0 := by
  unfold f_S_trigger_9 at h
  exact go_thr (text := "no such kind") hl xs_65_69_1 (by decide +kernel) rfl rfl (d_S_trigger 9 rfl) (d_S_trigger 12 rfl) (d_S_trigger 13 rfl) (d_S_trigger 15 rfl) (d_S_trigger 18 rfl) ⟨by decide, Nat.le_of_ble_eq_true rfl, by decide, by decide⟩ (Option.some.inj h) (by decide) (by decide)
def f_S_trigger_106  (x1 : Int32) (x2 : Int32) (x3 : Int32) (x4 : Int32) (x5 : Int32) (v : go_V) : Option go_R := some (0, x5, 0, v)
set_option maxHeartbeats 4000000 in
set_option maxRecDepth 100000 in
theorem b_S_trigger_106 {l : Launch} {G : go_G} {ad : Nat → Nat} (hl : l.stackTraces = false) {r : go_R}  (x1 : Int32) (x2 : Int32) (x3 : Int32) (x4 : Int32) (x5 : Int32) (v : go_V) (h : f_S_trigger_106  x1 x2 x3 x4 x5 v = some r) : Go l G M_S_trigger go_Ex0 (go_E G ad 1 r 4 24) ad v [(0, .ref (ad (0))), (1, .int x1), (2, .int x2), (3, .int x3), (4, .int x4), (5, .int x5)] 106 [] 3 18 := by
  unfold f_S_trigger_106 at h
  refine go_iload (d_S_trigger 106 rfl) rfl ?_
  exact go_iret (d_S_trigger 108 rfl) rfl rfl (Option.some.inj h) (by decide) (by decide)
def f_S_trigger (x1 : Int32) (x2 : Int32) (x3 : Int32) (x4 : Int32) (v : go_V) : Option go_R := br (decide (x1 < 0)) (f_S_trigger_9  (x1) (x2) (x3) (x4) (v)) (br (decide (x1 < (4 : Int32))) (bd (f_S_refuseUnknownStep x3 v) (fun r_3 => tr r_3 (gd (go_in x1 4) (gd (go_in x1 4) (bd (f_S_refuseOutside x2 (go_lsI x1) (go_grI x1) r_3.2.2.2) (fun r_8 => tr r_8 (bd (f_S_refuseOutside x4 (0 : Int32) (100000 : Int32) r_8.2.2.2) (fun r_11 => tr r_11 (br (decide ((r_11.2.2.2 0 4) < (20 : Int32))) (ln (u2 r_11.2.2.2 0 4 ((r_11.2.2.2 0 4) + (1 : Int32))) (fun v_15 => gd (go_in (r_11.2.2.2 0 4) 20) (ln (go_elt 12 (r_11.2.2.2 0 4).toNatClampNeg) (fun k_17 => gd (Nat.beq (go_cls (k_17)) 1) (bd (f_T_set k_17 x1 x2 x3 x4 v_15) (fun r_18 => nt r_18 (br (decide (x1 = (2 : Int32))) (bd (f_S_addSilence (r_11.2.2.2 0 4) r_18.2.2.2) (fun r_23 => nt r_23 (f_S_trigger_106  (x1) (x2) (x3) (x4) ((r_11.2.2.2 0 4)) (r_23.2.2.2)))) (f_S_trigger_106  (x1) (x2) (x3) (x4) ((r_11.2.2.2 0 4)) (r_18.2.2.2))))))))) (some (4, 0, 0, r_11.2.2.2))))))))))) (f_S_trigger_9  (x1) (x2) (x3) (x4) (v)))
set_option maxHeartbeats 4000000 in
set_option maxRecDepth 100000 in
theorem Ca_S_trigger {l : Launch} {G : go_G} {ad : Nat → Nat} (hl : l.stackTraces = false) {r : go_R} {x1 : Int32} {x2 : Int32} {x3 : Int32} {x4 : Int32} {v : go_V} (h : f_S_trigger x1 x2 x3 x4 v = some r) : Ca l G y_S_trigger (.code y_S_trigger c_S_trigger 6 (some .int) :: go_TT) (rmD 1 4) 1 ad [.ref (ad (0)), .int x1, .int x2, .int x3, .int x4] v r := by
  unfold f_S_trigger at h
  refine go_body (own := RS) (by decide) rfl (Nat.le_of_ble_eq_true rfl) ?_
  show Go l G M_S_trigger go_Ex0 (go_E G ad 1 r 4 24) ad v [(0, .ref (ad (0))), (1, .int x1), (2, .int x2), (3, .int x3), (4, .int x4)] 0 [] 0 0
  refine go_iload_n (d_S_trigger 0 rfl) rfl rfl ?_
  rcases br_some h with ⟨c_1, h⟩ | ⟨c_1, h⟩
  · refine go_if_lt (tgt := 9) (d_S_trigger 1 rfl) (by decide) (fun _ => ?_) (fun q => absurd (of_decide_eq_true c_1) q)
    exact b_S_trigger_9 hl  (x1) (x2) (x3) (x4) (v) h
  · refine go_if_lt (tgt := 9) (d_S_trigger 1 rfl) (by decide) (fun q => absurd q (of_decide_eq_false c_1)) (fun _ => ?_)
    refine go_iload_n (d_S_trigger 4 rfl) rfl rfl ?_
    refine go_iconst (x := (4 : Int32)) (d_S_trigger 5 rfl) (by decide) ?_
    rcases br_some h with ⟨c_2, h⟩ | ⟨c_2, h⟩
    · refine go_icmp_lt (tgt := 19) (d_S_trigger 6 rfl) (by decide) (fun _ => ?_) (fun q => absurd (of_decide_eq_true c_2) q)
      refine go_iload_n (d_S_trigger 19 rfl) rfl rfl ?_
      obtain ⟨r_3, o_4, h⟩ := bd_some h
      rcases tr_some h with ⟨z_5, h⟩ | ⟨z_5, h⟩
      · refine go_cS (As := [.int x3]) (rest := []) (st2 := []) (c2 := 1) (s2 := 6) rfl rfl rfl rfl (Ca_S_refuseUnknownStep hl o_4)  (d_S_trigger 20 rfl) cw_S_39 w_189 ⟨by decide, by decide⟩ rfl (Nat.le_of_ble_eq_true rfl) ⟨by decide, by decide⟩ (fun _ => ?_) (fun q => absurd z_5 q)
        refine go_iload_n (d_S_trigger 23 rfl) rfl rfl ?_
        refine go_gsL (d_S_trigger 24 rfl) w_320 ?_
        refine go_iload_n (d_S_trigger 27 rfl) rfl rfl ?_
        obtain ⟨g_6, h⟩ := gd_some h
        refine go_tL (d_S_trigger 28 rfl) g_6 ?_
        refine go_gsG (d_S_trigger 29 rfl) w_322 ?_
        refine go_iload_n (d_S_trigger 32 rfl) rfl rfl ?_
        obtain ⟨g_7, h⟩ := gd_some h
        refine go_tG (d_S_trigger 33 rfl) g_7 ?_
        obtain ⟨r_8, o_9, h⟩ := bd_some h
        rcases tr_some h with ⟨z_10, h⟩ | ⟨z_10, h⟩
        · refine go_cS (As := [.int x2, .int ((go_lsI x1)), .int ((go_grI x1))]) (rest := []) (st2 := []) (c2 := 2) (s2 := 12) rfl rfl rfl rfl (Ca_S_refuseOutside hl o_9)  (d_S_trigger 34 rfl) cw_S_46 w_265 ⟨by decide, by decide⟩ rfl (Nat.le_of_ble_eq_true rfl) ⟨by decide, by decide⟩ (fun _ => ?_) (fun q => absurd z_10 q)
          refine go_iload (d_S_trigger 37 rfl) rfl ?_
          refine go_iconst (x := (0 : Int32)) (d_S_trigger 39 rfl) (by decide) ?_
          refine go_ldc (x := (100000 : Int32)) (d_S_trigger 40 rfl) w_324 ?_
          obtain ⟨r_11, o_12, h⟩ := bd_some h
          rcases tr_some h with ⟨z_13, h⟩ | ⟨z_13, h⟩
          · refine go_cS (As := [.int x4, .int ((0 : Int32)), .int ((100000 : Int32))]) (rest := []) (st2 := []) (c2 := 3) (s2 := 18) rfl rfl rfl rfl (Ca_S_refuseOutside hl o_12)  (d_S_trigger 42 rfl) cw_S_46 w_265 ⟨by decide, by decide⟩ rfl (Nat.le_of_ble_eq_true rfl) ⟨by decide, by decide⟩ (fun _ => ?_) (fun q => absurd z_13 q)
            refine go_aload_n (d_S_trigger 45 rfl) rfl rfl ?_
            refine go_getI (d_S_trigger 46 rfl) fl_S_77 rfl rfl ?_
            refine go_bipush (x := (20 : Int32)) (d_S_trigger 49 rfl) (by decide) ?_
            rcases br_some h with ⟨c_14, h⟩ | ⟨c_14, h⟩
            · refine go_icmp_lt (tgt := 64) (d_S_trigger 51 rfl) (by decide) (fun _ => ?_) (fun q => absurd (of_decide_eq_true c_14) q)
              refine go_aload_n (d_S_trigger 64 rfl) rfl rfl ?_
              refine go_getI (d_S_trigger 65 rfl) fl_S_77 rfl rfl ?_
              refine go_istore (lv' := [(0, .ref (ad (0))), (1, .int x1), (2, .int x2), (3, .int x3), (4, .int x4), (5, .int ((r_11.2.2.2 0 4)))]) (d_S_trigger 68 rfl) (by decide) rfl ?_
              refine go_aload_n (d_S_trigger 70 rfl) rfl rfl ?_
              refine go_dup (d_S_trigger 71 rfl) rfl ?_
              refine go_getI (d_S_trigger 72 rfl) fl_S_77 rfl rfl ?_
              refine go_iconst (x := (1 : Int32)) (d_S_trigger 75 rfl) (by decide) ?_
              refine go_iadd (d_S_trigger 76 rfl) ?_
              obtain ⟨v_15, ev_15, h⟩ := ln_some h
              refine go_putI (x := ((r_11.2.2.2 0 4) + (1 : Int32))) (d_S_trigger 77 rfl) fp_S_77 rfl rfl rfl rfl ?_
              rw [← ev_15]
              refine go_aload_n (d_S_trigger 80 rfl) rfl rfl ?_
              refine go_getR (d_S_trigger 81 rfl) fl_S_16 rfl rfl ?_
              show Go _ _ _ _ _ _ _ _ _ (.ref (ad (12)) :: []) _ _
              refine go_iload (d_S_trigger 84 rfl) rfl ?_
              obtain ⟨g_16, h⟩ := gd_some h
              obtain ⟨k_17, ek_17, h⟩ := ln_some h
              refine go_aald (c := 13) (d_S_trigger 86 rfl) rfl (by decide) g_16 ?_
              rw [← ek_17]
              refine go_iload_n (d_S_trigger 87 rfl) rfl rfl ?_
              refine go_iload_n (d_S_trigger 88 rfl) rfl rfl ?_
              refine go_iload_n (d_S_trigger 89 rfl) rfl rfl ?_
              refine go_iload (d_S_trigger 90 rfl) rfl ?_
              obtain ⟨g_21, h⟩ := gd_some h
              obtain ⟨r_18, o_19, h⟩ := bd_some h
              obtain ⟨z_20, h⟩ := nt_some h
              refine go_cN (As := [.int x1, .int x2, .int x3, .int x4]) (rest := []) (st2 := []) (c2 := 3) (s2 := 18) rfl rfl rfl rfl (Ca_T_set hl o_19) z_20 (d_S_trigger 92 rfl) cw_S_85 ⟨w_343, w_2⟩ (Nat.eq_of_beq_eq_true g_21) (by decide) rfl ⟨by decide, by decide⟩ rfl (Nat.le_of_ble_eq_true rfl) ⟨by decide, by decide⟩ ?_
              refine go_iload_n (d_S_trigger 95 rfl) rfl rfl ?_
              refine go_iconst (x := (2 : Int32)) (d_S_trigger 96 rfl) (by decide) ?_
              rcases br_some h with ⟨c_22, h⟩ | ⟨c_22, h⟩
              · refine go_icmp_ne (tgt := 106) (d_S_trigger 97 rfl) (by decide) (fun q => absurd (of_decide_eq_true c_22) q) (fun _ => ?_)
                refine go_aload_n (d_S_trigger 100 rfl) rfl rfl ?_
                refine go_iload (d_S_trigger 101 rfl) rfl ?_
                obtain ⟨r_23, o_24, h⟩ := bd_some h
                obtain ⟨z_25, h⟩ := nt_some h
                refine go_cV (As := [.int ((r_11.2.2.2 0 4))]) (rest := []) (st2 := []) (c2 := 3) (s2 := 18) rfl rfl rfl rfl (Ca_S_addSilence hl o_24)  (d_S_trigger 103 rfl) cw_S_89 ⟨w_347, w_3⟩ rfl (by decide) rfl ⟨by decide, by decide⟩ rfl (Nat.le_of_ble_eq_true rfl) ⟨by decide, by decide⟩ (fun _ => ?_) (fun q => absurd z_25 q)
                exact b_S_trigger_106 hl  (x1) (x2) (x3) (x4) ((r_11.2.2.2 0 4)) (r_23.2.2.2) h
              · refine go_icmp_ne (tgt := 106) (d_S_trigger 97 rfl) (by decide) (fun _ => ?_) (fun q => absurd q (of_decide_eq_false c_22))
                exact b_S_trigger_106 hl  (x1) (x2) (x3) (x4) ((r_11.2.2.2 0 4)) (r_18.2.2.2) h
            · refine go_icmp_lt (tgt := 64) (d_S_trigger 51 rfl) (by decide) (fun q => absurd q (of_decide_eq_false c_14)) (fun _ => ?_)
              exact go_thr (text := "no room for one more trigger") hl xs_80_84_4 (by decide +kernel) rfl rfl (d_S_trigger 54 rfl) (d_S_trigger 57 rfl) (d_S_trigger 58 rfl) (d_S_trigger 60 rfl) (d_S_trigger 63 rfl) ⟨by decide, Nat.le_of_ble_eq_true rfl, by decide, by decide⟩ (Option.some.inj h) (by decide) (by decide)
          · exact go_cS (As := [.int x4, .int ((0 : Int32)), .int ((100000 : Int32))]) (rest := []) (st2 := []) (c2 := 3) (s2 := 18) rfl rfl rfl rfl (Ca_S_refuseOutside hl o_12)  (d_S_trigger 42 rfl) cw_S_46 w_265 ⟨by decide, by decide⟩ rfl (Nat.le_of_ble_eq_true rfl) ⟨by decide, by decide⟩ (fun q => absurd q z_13) (fun q => gx_out q rfl h (by decide) (by decide))
        · exact go_cS (As := [.int x2, .int ((go_lsI x1)), .int ((go_grI x1))]) (rest := []) (st2 := []) (c2 := 2) (s2 := 12) rfl rfl rfl rfl (Ca_S_refuseOutside hl o_9)  (d_S_trigger 34 rfl) cw_S_46 w_265 ⟨by decide, by decide⟩ rfl (Nat.le_of_ble_eq_true rfl) ⟨by decide, by decide⟩ (fun q => absurd q z_10) (fun q => gx_out q rfl h (by decide) (by decide))
      · exact go_cS (As := [.int x3]) (rest := []) (st2 := []) (c2 := 1) (s2 := 6) rfl rfl rfl rfl (Ca_S_refuseUnknownStep hl o_4)  (d_S_trigger 20 rfl) cw_S_39 w_189 ⟨by decide, by decide⟩ rfl (Nat.le_of_ble_eq_true rfl) ⟨by decide, by decide⟩ (fun q => absurd q z_5) (fun q => gx_out q rfl h (by decide) (by decide))
    · refine go_icmp_lt (tgt := 19) (d_S_trigger 6 rfl) (by decide) (fun q => absurd q (of_decide_eq_false c_2)) (fun _ => ?_)
      exact b_S_trigger_9 hl  (x1) (x2) (x3) (x4) (v) h
abbrev M_S_begin : go_M := (c_S_begin, 2, (some .int), RS, [], rmD 0 1)
def f_S_begin  (v : go_V) : Option go_R := br (decide ((v 0 8) < (12 : Int32))) (ln (u2 v 0 8 ((v 0 8) + (1 : Int32))) (fun v_2 => gd (go_in (v 0 8) 12) (ln (go_elt 14 (v 0 8).toNatClampNeg) (fun k_4 => gd (Nat.beq (go_cls (k_4)) 0) (ln (u2 v_2 (k_4) 0 (1 : Int32)) (fun v_6 => gd (go_in (v 0 8) 12) (ln (go_elt 14 (v 0 8).toNatClampNeg) (fun k_8 => gd (Nat.beq (go_cls (k_8)) 0) (ln (u2 v_6 (k_8) 3 (v_6 0 2)) (fun v_10 => some (0, (v 0 8), 0, v_10))))))))))) (some (4, 0, 0, v))
set_option maxHeartbeats 4000000 in
set_option maxRecDepth 100000 in
theorem Ca_S_begin {l : Launch} {G : go_G} {ad : Nat → Nat} (hl : l.stackTraces = false) {r : go_R}  {v : go_V} (h : f_S_begin  v = some r) : Ca l G y_S_begin (.code y_S_begin c_S_begin 2 (some .int) :: go_TT) (rmD 0 1) 1 ad [.ref (ad (0))] v r := by
  unfold f_S_begin at h
  refine go_body (own := RS) (by decide) rfl (Nat.le_of_ble_eq_true rfl) ?_
  show Go l G M_S_begin go_Ex0 (go_E G ad 1 r 1 6) ad v [(0, .ref (ad (0)))] 0 [] 0 0
  refine go_aload_n (d_S_begin 0 rfl) rfl rfl ?_
  refine go_getI (d_S_begin 1 rfl) fl_S_92 rfl rfl ?_
  refine go_bipush (x := (12 : Int32)) (d_S_begin 4 rfl) (by decide) ?_
  rcases br_some h with ⟨c_1, h⟩ | ⟨c_1, h⟩
  · refine go_icmp_lt (tgt := 19) (d_S_begin 6 rfl) (by decide) (fun _ => ?_) (fun q => absurd (of_decide_eq_true c_1) q)
    refine go_aload_n (d_S_begin 19 rfl) rfl rfl ?_
    refine go_getI (d_S_begin 20 rfl) fl_S_92 rfl rfl ?_
    refine go_istore_n (lv' := [(0, .ref (ad (0))), (1, .int ((v 0 8)))]) (d_S_begin 23 rfl) rfl (by decide) rfl ?_
    refine go_aload_n (d_S_begin 24 rfl) rfl rfl ?_
    refine go_dup (d_S_begin 25 rfl) rfl ?_
    refine go_getI (d_S_begin 26 rfl) fl_S_92 rfl rfl ?_
    refine go_iconst (x := (1 : Int32)) (d_S_begin 29 rfl) (by decide) ?_
    refine go_iadd (d_S_begin 30 rfl) ?_
    obtain ⟨v_2, ev_2, h⟩ := ln_some h
    refine go_putI (x := ((v 0 8) + (1 : Int32))) (d_S_begin 31 rfl) fp_S_92 rfl rfl rfl rfl ?_
    rw [← ev_2]
    refine go_aload_n (d_S_begin 34 rfl) rfl rfl ?_
    refine go_getR (d_S_begin 35 rfl) fl_S_26 rfl rfl ?_
    show Go _ _ _ _ _ _ _ _ _ (.ref (ad (14)) :: []) _ _
    refine go_iload_n (d_S_begin 38 rfl) rfl rfl ?_
    obtain ⟨g_3, h⟩ := gd_some h
    obtain ⟨k_4, ek_4, h⟩ := ln_some h
    refine go_aald (c := 14) (d_S_begin 39 rfl) rfl (by decide) g_3 ?_
    rw [← ek_4]
    refine go_iconst (x := (1 : Int32)) (d_S_begin 40 rfl) (by decide) ?_
    obtain ⟨g_5, h⟩ := gd_some h
    obtain ⟨v_6, ev_6, h⟩ := ln_some h
    refine go_putI (x := (1 : Int32)) (d_S_begin 41 rfl) fp_S_97 (Nat.eq_of_beq_eq_true g_5) rfl (by decide) (by decide) ?_
    rw [← ev_6]
    refine go_aload_n (d_S_begin 44 rfl) rfl rfl ?_
    refine go_getR (d_S_begin 45 rfl) fl_S_26 rfl rfl ?_
    show Go _ _ _ _ _ _ _ _ _ (.ref (ad (14)) :: []) _ _
    refine go_iload_n (d_S_begin 48 rfl) rfl rfl ?_
    obtain ⟨g_7, h⟩ := gd_some h
    obtain ⟨k_8, ek_8, h⟩ := ln_some h
    refine go_aald (c := 14) (d_S_begin 49 rfl) rfl (by decide) g_7 ?_
    rw [← ek_8]
    refine go_aload_n (d_S_begin 50 rfl) rfl rfl ?_
    refine go_getI (d_S_begin 51 rfl) fl_S_101 rfl rfl ?_
    obtain ⟨g_9, h⟩ := gd_some h
    obtain ⟨v_10, ev_10, h⟩ := ln_some h
    refine go_putI (x := (v_6 0 2)) (d_S_begin 54 rfl) fp_S_104 (Nat.eq_of_beq_eq_true g_9) rfl rfl rfl ?_
    rw [← ev_10]
    refine go_iload_n (d_S_begin 57 rfl) rfl rfl ?_
    exact go_iret (d_S_begin 58 rfl) rfl rfl (Option.some.inj h) (by decide) (by decide)
  · refine go_icmp_lt (tgt := 19) (d_S_begin 6 rfl) (by decide) (fun q => absurd q (of_decide_eq_false c_1)) (fun _ => ?_)
    exact go_thr (text := "no room for one more incident") hl xs_80_84_4 (by decide +kernel) rfl rfl (d_S_begin 9 rfl) (d_S_begin 12 rfl) (d_S_begin 13 rfl) (d_S_begin 15 rfl) (d_S_begin 18 rfl) ⟨by decide, Nat.le_of_ble_eq_true rfl, by decide, by decide⟩ (Option.some.inj h) (by decide) (by decide)
abbrev M_S_close : go_M := (c_S_close, 4, none, RS, [], rmD 1 2)
def f_S_close_47 (rec17 : Int32 → Nat → Int32 → go_V → Option go_R) (x1 : Int32) (k2 : Nat) (x3 : Int32) (v : go_V) : Option go_R := rec17 (x1) (k2) ((x3 + 1)) (v)
set_option maxHeartbeats 4000000 in
set_option maxRecDepth 100000 in
theorem b_S_close_47 {l : Launch} {G : go_G} {ad : Nat → Nat} (hl : l.stackTraces = false) {r : go_R} (rec17 : Int32 → Nat → Int32 → go_V → Option go_R) (hrec17 : ∀ (x1 : Int32) (k2 : Nat) (x3 : Int32) (v : go_V), rec17 x1 k2 x3 v = some r → Go l G M_S_close go_Ex0 (go_E G ad 0 r 2 12) ad v [(0, .ref (ad (0))), (1, .int x1), (2, .ref (ad (k2))), (3, .int x3)] 17 [] 2 12) (x1 : Int32) (k2 : Nat) (x3 : Int32) (v : go_V) (h : f_S_close_47 rec17 x1 k2 x3 v = some r) : Go l G M_S_close go_Ex0 (go_E G ad 0 r 2 12) ad v [(0, .ref (ad (0))), (1, .int x1), (2, .ref (ad (k2))), (3, .int x3)] 47 [] 2 12 := by
  unfold f_S_close_47 at h
  refine go_iinc (y := (x3 + 1)) (lv' := [(0, .ref (ad (0))), (1, .int x1), (2, .ref (ad (k2))), (3, .int ((x3 + 1)))]) (d_S_close 47 rfl) rfl rfl (by decide) rfl ?_
  refine go_goto (tgt := 17) (d_S_close 50 rfl) (by decide) ?_
  exact hrec17 (x1) (k2) ((x3 + 1)) (v) h
def f_S_close_17  : Nat → Int32 → Nat → Int32 → go_V → Option go_R
  | 0, _, _, _, _ => none
  | n + 1, x1, k2, x3, v => br (decide ((v 0 10) ≤ x3)) (some (0, 0, 0, v)) (gd (go_in x3 40) (ln (go_elt 15 x3.toNatClampNeg) (fun k_3 => gd (Nat.beq (go_cls (k_3)) 2) (br (decide ((v (k_3) 2) = x1)) (gd (go_in x3 40) (ln (go_elt 15 x3.toNatClampNeg) (fun k_7 => gd (Nat.beq (go_cls (k_7)) 2) (bd (f_U_setFree k_7 v) (fun r_8 => nt r_8 (f_S_close_47 (f_S_close_17 n) (x1) (k2) (x3) (r_8.2.2.2))))))) (f_S_close_47 (f_S_close_17 n) (x1) (k2) (x3) (v))))))
set_option maxHeartbeats 4000000 in
set_option maxRecDepth 100000 in
theorem b_S_close_17 {l : Launch} {G : go_G} {ad : Nat → Nat} (hl : l.stackTraces = false) {r : go_R}  : ∀ (n : Nat) (x1 : Int32) (k2 : Nat) (x3 : Int32) (v : go_V), f_S_close_17  n x1 k2 x3 v = some r → Go l G M_S_close go_Ex0 (go_E G ad 0 r 2 12) ad v [(0, .ref (ad (0))), (1, .int x1), (2, .ref (ad (k2))), (3, .int x3)] 17 [] 2 12 := by
  intro n
  induction n with
  | zero =>
    intro x1 k2 x3 v h
    cases h
  | succ n ih =>
    intro x1 k2 x3 v h
    rw [f_S_close_17] at h
    refine go_iload_n (d_S_close 17 rfl) rfl rfl ?_
    refine go_aload_n (d_S_close 18 rfl) rfl rfl ?_
    refine go_getI (d_S_close 19 rfl) fl_S_115 rfl rfl ?_
    rcases br_some h with ⟨c_1, h⟩ | ⟨c_1, h⟩
    · refine go_icmp_ge (tgt := 53) (d_S_close 22 rfl) (by decide) (fun _ => ?_) (fun q => absurd (of_decide_eq_true c_1) q)
      exact go_vret (d_S_close 53 rfl) rfl (Option.some.inj h) (by decide) (by decide)
    · refine go_icmp_ge (tgt := 53) (d_S_close 22 rfl) (by decide) (fun q => absurd q (of_decide_eq_false c_1)) (fun _ => ?_)
      refine go_aload_n (d_S_close 25 rfl) rfl rfl ?_
      refine go_getR (d_S_close 26 rfl) fl_S_32 rfl rfl ?_
      show Go _ _ _ _ _ _ _ _ _ (.ref (ad (15)) :: []) _ _
      refine go_iload_n (d_S_close 29 rfl) rfl rfl ?_
      obtain ⟨g_2, h⟩ := gd_some h
      obtain ⟨k_3, ek_3, h⟩ := ln_some h
      refine go_aald (c := 15) (d_S_close 30 rfl) rfl (by decide) g_2 ?_
      rw [← ek_3]
      obtain ⟨g_4, h⟩ := gd_some h
      refine go_getI (d_S_close 31 rfl) fl_S_118 (Nat.eq_of_beq_eq_true g_4) rfl ?_
      refine go_iload_n (d_S_close 34 rfl) rfl rfl ?_
      rcases br_some h with ⟨c_5, h⟩ | ⟨c_5, h⟩
      · refine go_icmp_ne (tgt := 47) (d_S_close 35 rfl) (by decide) (fun q => absurd (of_decide_eq_true c_5) q) (fun _ => ?_)
        refine go_aload_n (d_S_close 38 rfl) rfl rfl ?_
        refine go_getR (d_S_close 39 rfl) fl_S_32 rfl rfl ?_
        show Go _ _ _ _ _ _ _ _ _ (.ref (ad (15)) :: []) _ _
        refine go_iload_n (d_S_close 42 rfl) rfl rfl ?_
        obtain ⟨g_6, h⟩ := gd_some h
        obtain ⟨k_7, ek_7, h⟩ := ln_some h
        refine go_aald (c := 15) (d_S_close 43 rfl) rfl (by decide) g_6 ?_
        rw [← ek_7]
        obtain ⟨g_11, h⟩ := gd_some h
        obtain ⟨r_8, o_9, h⟩ := bd_some h
        obtain ⟨z_10, h⟩ := nt_some h
        refine go_cN (As := []) (rest := []) (st2 := []) (c2 := 2) (s2 := 12) rfl rfl rfl rfl (Ca_U_setFree hl o_9) z_10 (d_S_close 44 rfl) cw_S_121 ⟨w_375, w_5⟩ (Nat.eq_of_beq_eq_true g_11) (by decide) rfl ⟨by decide, by decide⟩ rfl (Nat.le_of_ble_eq_true rfl) ⟨by decide, by decide⟩ ?_
        exact b_S_close_47 hl _ ih (x1) (k2) (x3) (r_8.2.2.2) h
      · refine go_icmp_ne (tgt := 47) (d_S_close 35 rfl) (by decide) (fun _ => ?_) (fun q => absurd q (of_decide_eq_false c_5))
        exact b_S_close_47 hl _ ih (x1) (k2) (x3) (v) h
def f_S_close (x1 : Int32) (v : go_V) : Option go_R := bd (f_S_knownIncident x1 v) (fun r_1 => tr r_1 (bd (f_S_refuseClosed r_1.2.2.1 r_1.2.2.2) (fun r_4 => tr r_4 (gd (Nat.beq (go_cls (r_1.2.2.1)) 0) (ln (u2 r_4.2.2.2 (r_1.2.2.1) 0 (0 : Int32)) (fun v_8 => f_S_close_17  FU (x1) (r_1.2.2.1) ((0 : Int32)) (v_8)))))))
set_option maxHeartbeats 4000000 in
set_option maxRecDepth 100000 in
theorem Ca_S_close {l : Launch} {G : go_G} {ad : Nat → Nat} (hl : l.stackTraces = false) {r : go_R} {x1 : Int32} {v : go_V} (h : f_S_close x1 v = some r) : Ca l G y_S_close (.code y_S_close c_S_close 4 none :: go_TT) (rmD 1 2) 0 ad [.ref (ad (0)), .int x1] v r := by
  unfold f_S_close at h
  refine go_body (own := RS) (by decide) rfl (Nat.le_of_ble_eq_true rfl) ?_
  show Go l G M_S_close go_Ex0 (go_E G ad 0 r 2 12) ad v [(0, .ref (ad (0))), (1, .int x1)] 0 [] 0 0
  refine go_aload_n (d_S_close 0 rfl) rfl rfl ?_
  refine go_iload_n (d_S_close 1 rfl) rfl rfl ?_
  obtain ⟨r_1, o_2, h⟩ := bd_some h
  rcases tr_some h with ⟨z_3, h⟩ | ⟨z_3, h⟩
  · refine go_cV (As := [.int x1]) (rest := []) (st2 := [.ref (ad (r_1.2.2.1))]) (c2 := 1) (s2 := 6) rfl rfl rfl rfl (Ca_S_knownIncident hl o_2)  (d_S_close 2 rfl) cw_S_107 ⟨w_366, w_4⟩ rfl (by decide) rfl ⟨by decide, by decide⟩ rfl (Nat.le_of_ble_eq_true rfl) ⟨by decide, by decide⟩ (fun _ => ?_) (fun q => absurd z_3 q)
    refine go_astore_n (lv' := [(0, .ref (ad (0))), (1, .int x1), (2, .ref (ad (r_1.2.2.1)))]) (d_S_close 5 rfl) rfl (by decide) rfl ?_
    refine go_aload_n (d_S_close 6 rfl) rfl rfl ?_
    obtain ⟨r_4, o_5, h⟩ := bd_some h
    rcases tr_some h with ⟨z_6, h⟩ | ⟨z_6, h⟩
    · refine go_cS (As := [.ref (ad (r_1.2.2.1))]) (rest := []) (st2 := []) (c2 := 2) (s2 := 12) rfl rfl rfl rfl (Ca_S_refuseClosed hl o_5)  (d_S_close 7 rfl) cw_S_111 w_370 ⟨by decide, by decide⟩ rfl (Nat.le_of_ble_eq_true rfl) ⟨by decide, by decide⟩ (fun _ => ?_) (fun q => absurd z_6 q)
      refine go_aload_n (d_S_close 10 rfl) rfl rfl ?_
      refine go_iconst (x := (0 : Int32)) (d_S_close 11 rfl) (by decide) ?_
      obtain ⟨g_7, h⟩ := gd_some h
      obtain ⟨v_8, ev_8, h⟩ := ln_some h
      refine go_putI (x := (0 : Int32)) (d_S_close 12 rfl) fp_S_97 (Nat.eq_of_beq_eq_true g_7) rfl (by decide) (by decide) ?_
      rw [← ev_8]
      refine go_iconst (x := (0 : Int32)) (d_S_close 15 rfl) (by decide) ?_
      refine go_istore_n (lv' := [(0, .ref (ad (0))), (1, .int x1), (2, .ref (ad (r_1.2.2.1))), (3, .int ((0 : Int32)))]) (d_S_close 16 rfl) rfl (by decide) rfl ?_
      exact b_S_close_17 hl  FU (x1) (r_1.2.2.1) ((0 : Int32)) (v_8) h
    · exact go_cS (As := [.ref (ad (r_1.2.2.1))]) (rest := []) (st2 := []) (c2 := 2) (s2 := 12) rfl rfl rfl rfl (Ca_S_refuseClosed hl o_5)  (d_S_close 7 rfl) cw_S_111 w_370 ⟨by decide, by decide⟩ rfl (Nat.le_of_ble_eq_true rfl) ⟨by decide, by decide⟩ (fun q => absurd q z_6) (fun q => gx_out q rfl h (by decide) (by decide))
  · exact go_cV (As := [.int x1]) (rest := []) (st2 := [.ref (ad (r_1.2.2.1))]) (c2 := 1) (s2 := 6) rfl rfl rfl rfl (Ca_S_knownIncident hl o_2)  (d_S_close 2 rfl) cw_S_107 ⟨w_366, w_4⟩ rfl (by decide) rfl ⟨by decide, by decide⟩ rfl (Nat.le_of_ble_eq_true rfl) ⟨by decide, by decide⟩ (fun q => absurd q z_3) (fun q => gx_out q rfl h (by decide) (by decide))
abbrev M_S_tick : go_M := (c_S_tick, 5, (some .int), RS, [], rmD 3 2)
def f_S_tick_69 (rec32 : Int32 → Int32 → Int32 → Int32 → go_V → Option go_R) (x1 : Int32) (x2 : Int32) (x3 : Int32) (x4 : Int32) (v : go_V) : Option go_R := rec32 (x1) (x2) (x3) ((x4 + 1)) (v)
set_option maxHeartbeats 4000000 in
set_option maxRecDepth 100000 in
theorem b_S_tick_69 {l : Launch} {G : go_G} {ad : Nat → Nat} (hl : l.stackTraces = false) {r : go_R} (rec32 : Int32 → Int32 → Int32 → Int32 → go_V → Option go_R) (hrec32 : ∀ (x1 : Int32) (x2 : Int32) (x3 : Int32) (x4 : Int32) (v : go_V), rec32 x1 x2 x3 x4 v = some r → Go l G M_S_tick go_Ex0 (go_E G ad 1 r 2 12) ad v [(0, .ref (ad (0))), (1, .int x1), (2, .int x2), (3, .int x3), (4, .int x4)] 32 [] 2 12) (x1 : Int32) (x2 : Int32) (x3 : Int32) (x4 : Int32) (v : go_V) (h : f_S_tick_69 rec32 x1 x2 x3 x4 v = some r) : Go l G M_S_tick go_Ex0 (go_E G ad 1 r 2 12) ad v [(0, .ref (ad (0))), (1, .int x1), (2, .int x2), (3, .int x3), (4, .int x4)] 69 [] 2 12 := by
  unfold f_S_tick_69 at h
  refine go_iinc (y := (x4 + 1)) (lv' := [(0, .ref (ad (0))), (1, .int x1), (2, .int x2), (3, .int x3), (4, .int ((x4 + 1)))]) (d_S_tick 69 rfl) rfl rfl (by decide) rfl ?_
  refine go_goto (tgt := 32) (d_S_tick 72 rfl) (by decide) ?_
  exact hrec32 (x1) (x2) (x3) ((x4 + 1)) (v) h
def f_S_tick_32  : Nat → Int32 → Int32 → Int32 → Int32 → go_V → Option go_R
  | 0, _, _, _, _, _ => none
  | n + 1, x1, x2, x3, x4, v => br (decide ((v 0 8) ≤ x4)) (ln (u2 v 0 2 x2) (fun v_2 => some (0, x3, 0, v_2))) (gd (go_in x4 12) (ln (go_elt 14 x4.toNatClampNeg) (fun k_4 => gd (Nat.beq (go_cls (k_4)) 0) (br (decide ((v (k_4) 0) = 0)) (f_S_tick_69 (f_S_tick_32 n) (x1) (x2) (x3) (x4) (v)) (gd (go_in x4 12) (ln (go_elt 14 x4.toNatClampNeg) (fun k_8 => bd (f_S_stayedSilent k_8 x2 v) (fun r_9 => nt r_9 (f_S_tick_69 (f_S_tick_32 n) (x1) (x2) ((x3 + r_9.2.1)) (x4) (r_9.2.2.2))))))))))
set_option maxHeartbeats 4000000 in
set_option maxRecDepth 100000 in
theorem b_S_tick_32 {l : Launch} {G : go_G} {ad : Nat → Nat} (hl : l.stackTraces = false) {r : go_R}  : ∀ (n : Nat) (x1 : Int32) (x2 : Int32) (x3 : Int32) (x4 : Int32) (v : go_V), f_S_tick_32  n x1 x2 x3 x4 v = some r → Go l G M_S_tick go_Ex0 (go_E G ad 1 r 2 12) ad v [(0, .ref (ad (0))), (1, .int x1), (2, .int x2), (3, .int x3), (4, .int x4)] 32 [] 2 12 := by
  intro n
  induction n with
  | zero =>
    intro x1 x2 x3 x4 v h
    cases h
  | succ n ih =>
    intro x1 x2 x3 x4 v h
    rw [f_S_tick_32] at h
    refine go_iload (d_S_tick 32 rfl) rfl ?_
    refine go_aload_n (d_S_tick 34 rfl) rfl rfl ?_
    refine go_getI (d_S_tick 35 rfl) fl_S_92 rfl rfl ?_
    rcases br_some h with ⟨c_1, h⟩ | ⟨c_1, h⟩
    · refine go_icmp_ge (tgt := 75) (d_S_tick 38 rfl) (by decide) (fun _ => ?_) (fun q => absurd (of_decide_eq_true c_1) q)
      refine go_aload_n (d_S_tick 75 rfl) rfl rfl ?_
      refine go_iload_n (d_S_tick 76 rfl) rfl rfl ?_
      obtain ⟨v_2, ev_2, h⟩ := ln_some h
      refine go_putI (x := x2) (d_S_tick 77 rfl) fp_S_101 rfl rfl rfl rfl ?_
      rw [← ev_2]
      refine go_iload_n (d_S_tick 80 rfl) rfl rfl ?_
      exact go_iret (d_S_tick 81 rfl) rfl rfl (Option.some.inj h) (by decide) (by decide)
    · refine go_icmp_ge (tgt := 75) (d_S_tick 38 rfl) (by decide) (fun q => absurd q (of_decide_eq_false c_1)) (fun _ => ?_)
      refine go_aload_n (d_S_tick 41 rfl) rfl rfl ?_
      refine go_getR (d_S_tick 42 rfl) fl_S_26 rfl rfl ?_
      show Go _ _ _ _ _ _ _ _ _ (.ref (ad (14)) :: []) _ _
      refine go_iload (d_S_tick 45 rfl) rfl ?_
      obtain ⟨g_3, h⟩ := gd_some h
      obtain ⟨k_4, ek_4, h⟩ := ln_some h
      refine go_aald (c := 14) (d_S_tick 47 rfl) rfl (by decide) g_3 ?_
      rw [← ek_4]
      obtain ⟨g_5, h⟩ := gd_some h
      refine go_getI (d_S_tick 48 rfl) fl_S_97 (Nat.eq_of_beq_eq_true g_5) rfl ?_
      rcases br_some h with ⟨c_6, h⟩ | ⟨c_6, h⟩
      · refine go_if_eq (tgt := 69) (d_S_tick 51 rfl) (by decide) (fun _ => ?_) (fun q => absurd (of_decide_eq_true c_6) q)
        exact b_S_tick_69 hl _ ih (x1) (x2) (x3) (x4) (v) h
      · refine go_if_eq (tgt := 69) (d_S_tick 51 rfl) (by decide) (fun q => absurd q (of_decide_eq_false c_6)) (fun _ => ?_)
        refine go_iload_n (d_S_tick 54 rfl) rfl rfl ?_
        refine go_aload_n (d_S_tick 55 rfl) rfl rfl ?_
        refine go_aload_n (d_S_tick 56 rfl) rfl rfl ?_
        refine go_getR (d_S_tick 57 rfl) fl_S_26 rfl rfl ?_
        show Go _ _ _ _ _ _ _ _ _ (.ref (ad (14)) :: .ref (ad (0)) :: .int x3 :: []) _ _
        refine go_iload (d_S_tick 60 rfl) rfl ?_
        obtain ⟨g_7, h⟩ := gd_some h
        obtain ⟨k_8, ek_8, h⟩ := ln_some h
        refine go_aald (c := 14) (d_S_tick 62 rfl) rfl (by decide) g_7 ?_
        rw [← ek_8]
        refine go_iload_n (d_S_tick 63 rfl) rfl rfl ?_
        obtain ⟨r_9, o_10, h⟩ := bd_some h
        obtain ⟨z_11, h⟩ := nt_some h
        refine go_cV (As := [.ref (ad (k_8)), .int x2]) (rest := [.int x3]) (st2 := [.int (r_9.2.1), .int x3]) (c2 := 2) (s2 := 12) rfl rfl rfl rfl (Ca_S_stayedSilent hl o_10)  (d_S_tick 64 rfl) cw_S_125 ⟨w_387, w_6⟩ rfl (by decide) rfl ⟨by decide, by decide⟩ rfl (Nat.le_of_ble_eq_true rfl) ⟨by decide, by decide⟩ (fun _ => ?_) (fun q => absurd z_11 q)
        refine go_iadd (d_S_tick 67 rfl) ?_
        refine go_istore_n (lv' := [(0, .ref (ad (0))), (1, .int x1), (2, .int x2), (3, .int ((x3 + r_9.2.1))), (4, .int x4)]) (d_S_tick 68 rfl) rfl (by decide) rfl ?_
        exact b_S_tick_69 hl _ ih (x1) (x2) ((x3 + r_9.2.1)) (x4) (r_9.2.2.2) h
def f_S_tick (x1 : Int32) (v : go_V) : Option go_R := bd (f_S_refuseOutside x1 (1 : Int32) (5000 : Int32) v) (fun r_1 => tr r_1 (bd (f_S_refuseOutside ((r_1.2.2.2 0 2) + x1) (0 : Int32) (999999 : Int32) r_1.2.2.2) (fun r_4 => tr r_4 (f_S_tick_32  FU (x1) (((r_4.2.2.2 0 2) + x1)) ((0 : Int32)) ((0 : Int32)) (r_4.2.2.2)))))
set_option maxHeartbeats 4000000 in
set_option maxRecDepth 100000 in
theorem Ca_S_tick {l : Launch} {G : go_G} {ad : Nat → Nat} (hl : l.stackTraces = false) {r : go_R} {x1 : Int32} {v : go_V} (h : f_S_tick x1 v = some r) : Ca l G y_S_tick (.code y_S_tick c_S_tick 5 (some .int) :: go_TT) (rmD 3 2) 1 ad [.ref (ad (0)), .int x1] v r := by
  unfold f_S_tick at h
  refine go_body (own := RS) (by decide) rfl (Nat.le_of_ble_eq_true rfl) ?_
  show Go l G M_S_tick go_Ex0 (go_E G ad 1 r 2 12) ad v [(0, .ref (ad (0))), (1, .int x1)] 0 [] 0 0
  refine go_iload_n (d_S_tick 0 rfl) rfl rfl ?_
  refine go_iconst (x := (1 : Int32)) (d_S_tick 1 rfl) (by decide) ?_
  refine go_sipush (x := (5000 : Int32)) (d_S_tick 2 rfl) (by decide) ?_
  obtain ⟨r_1, o_2, h⟩ := bd_some h
  rcases tr_some h with ⟨z_3, h⟩ | ⟨z_3, h⟩
  · refine go_cS (As := [.int x1, .int ((1 : Int32)), .int ((5000 : Int32))]) (rest := []) (st2 := []) (c2 := 1) (s2 := 6) rfl rfl rfl rfl (Ca_S_refuseOutside hl o_2)  (d_S_tick 5 rfl) cw_S_46 w_265 ⟨by decide, by decide⟩ rfl (Nat.le_of_ble_eq_true rfl) ⟨by decide, by decide⟩ (fun _ => ?_) (fun q => absurd z_3 q)
    refine go_aload_n (d_S_tick 8 rfl) rfl rfl ?_
    refine go_getI (d_S_tick 9 rfl) fl_S_101 rfl rfl ?_
    refine go_iload_n (d_S_tick 12 rfl) rfl rfl ?_
    refine go_iadd (d_S_tick 13 rfl) ?_
    refine go_iconst (x := (0 : Int32)) (d_S_tick 14 rfl) (by decide) ?_
    refine go_ldc (x := (999999 : Int32)) (d_S_tick 15 rfl) w_384 ?_
    obtain ⟨r_4, o_5, h⟩ := bd_some h
    rcases tr_some h with ⟨z_6, h⟩ | ⟨z_6, h⟩
    · refine go_cS (As := [.int (((r_1.2.2.2 0 2) + x1)), .int ((0 : Int32)), .int ((999999 : Int32))]) (rest := []) (st2 := []) (c2 := 2) (s2 := 12) rfl rfl rfl rfl (Ca_S_refuseOutside hl o_5)  (d_S_tick 17 rfl) cw_S_46 w_265 ⟨by decide, by decide⟩ rfl (Nat.le_of_ble_eq_true rfl) ⟨by decide, by decide⟩ (fun _ => ?_) (fun q => absurd z_6 q)
      refine go_aload_n (d_S_tick 20 rfl) rfl rfl ?_
      refine go_getI (d_S_tick 21 rfl) fl_S_101 rfl rfl ?_
      refine go_iload_n (d_S_tick 24 rfl) rfl rfl ?_
      refine go_iadd (d_S_tick 25 rfl) ?_
      refine go_istore_n (lv' := [(0, .ref (ad (0))), (1, .int x1), (2, .int (((r_4.2.2.2 0 2) + x1)))]) (d_S_tick 26 rfl) rfl (by decide) rfl ?_
      refine go_iconst (x := (0 : Int32)) (d_S_tick 27 rfl) (by decide) ?_
      refine go_istore_n (lv' := [(0, .ref (ad (0))), (1, .int x1), (2, .int (((r_4.2.2.2 0 2) + x1))), (3, .int ((0 : Int32)))]) (d_S_tick 28 rfl) rfl (by decide) rfl ?_
      refine go_iconst (x := (0 : Int32)) (d_S_tick 29 rfl) (by decide) ?_
      refine go_istore (lv' := [(0, .ref (ad (0))), (1, .int x1), (2, .int (((r_4.2.2.2 0 2) + x1))), (3, .int ((0 : Int32))), (4, .int ((0 : Int32)))]) (d_S_tick 30 rfl) (by decide) rfl ?_
      exact b_S_tick_32 hl  FU (x1) (((r_4.2.2.2 0 2) + x1)) ((0 : Int32)) ((0 : Int32)) (r_4.2.2.2) h
    · exact go_cS (As := [.int (((r_1.2.2.2 0 2) + x1)), .int ((0 : Int32)), .int ((999999 : Int32))]) (rest := []) (st2 := []) (c2 := 2) (s2 := 12) rfl rfl rfl rfl (Ca_S_refuseOutside hl o_5)  (d_S_tick 17 rfl) cw_S_46 w_265 ⟨by decide, by decide⟩ rfl (Nat.le_of_ble_eq_true rfl) ⟨by decide, by decide⟩ (fun q => absurd q z_6) (fun q => gx_out q rfl h (by decide) (by decide))
  · exact go_cS (As := [.int x1, .int ((1 : Int32)), .int ((5000 : Int32))]) (rest := []) (st2 := []) (c2 := 1) (s2 := 6) rfl rfl rfl rfl (Ca_S_refuseOutside hl o_2)  (d_S_tick 5 rfl) cw_S_46 w_265 ⟨by decide, by decide⟩ rfl (Nat.le_of_ble_eq_true rfl) ⟨by decide, by decide⟩ (fun q => absurd q z_3) (fun q => gx_out q rfl h (by decide) (by decide))
abbrev M_S_word : go_M := (c_S_word, 4, (some .int), RS, [], rmD 3 3)
def f_S_word_35  (x1 : Int32) (x2 : Int32) (k3 : Nat) (v : go_V) : Option go_R := bd (f_S_happened k3 (0 : Int32) x2 x2 v) (fun r_1 => nt r_1 (some (0, r_1.2.1, 0, r_1.2.2.2)))
set_option maxHeartbeats 4000000 in
set_option maxRecDepth 100000 in
theorem b_S_word_35 {l : Launch} {G : go_G} {ad : Nat → Nat} (hl : l.stackTraces = false) {r : go_R}  (x1 : Int32) (x2 : Int32) (k3 : Nat) (v : go_V) (h : f_S_word_35  x1 x2 k3 v = some r) : Go l G M_S_word go_Ex0 (go_E G ad 1 r 3 18) ad v [(0, .ref (ad (0))), (1, .int x1), (2, .int x2), (3, .ref (ad (k3)))] 35 [] 3 18 := by
  unfold f_S_word_35 at h
  refine go_aload_n (d_S_word 35 rfl) rfl rfl ?_
  refine go_aload_n (d_S_word 36 rfl) rfl rfl ?_
  refine go_iconst (x := (0 : Int32)) (d_S_word 37 rfl) (by decide) ?_
  refine go_iload_n (d_S_word 38 rfl) rfl rfl ?_
  refine go_iload_n (d_S_word 39 rfl) rfl rfl ?_
  obtain ⟨r_1, o_2, h⟩ := bd_some h
  obtain ⟨z_3, h⟩ := nt_some h
  refine go_cV (As := [.ref (ad (k3)), .int ((0 : Int32)), .int x2, .int x2]) (rest := []) (st2 := [.int (r_1.2.1)]) (c2 := 3) (s2 := 18) rfl rfl rfl rfl (Ca_S_happened hl o_2)  (d_S_word 40 rfl) cw_S_135 ⟨w_417, w_11⟩ rfl (by decide) rfl ⟨by decide, by decide⟩ rfl (Nat.le_of_ble_eq_true rfl) ⟨by decide, by decide⟩ (fun _ => ?_) (fun q => absurd z_3 q)
  exact go_iret (d_S_word 43 rfl) rfl rfl (Option.some.inj h) (by decide) (by decide)
def f_S_word (x1 : Int32) (x2 : Int32) (v : go_V) : Option go_R := bd (f_S_knownIncident x1 v) (fun r_1 => tr r_1 (bd (f_S_refuseOutside x2 (0 : Int32) (99 : Int32) r_1.2.2.2) (fun r_4 => tr r_4 (bd (f_S_refuseClosed r_1.2.2.1 r_4.2.2.2) (fun r_7 => tr r_7 (bd (f_S_hasTriggerForWord x2 r_7.2.2.2) (fun r_10 => nt r_10 (br (decide (r_10.2.1 = 0)) (ln (u2 r_10.2.2.2 0 11 ((r_10.2.2.2 0 11) + (1 : Int32))) (fun v_14 => f_S_word_35  (x1) (x2) (r_1.2.2.1) (v_14))) (f_S_word_35  (x1) (x2) (r_1.2.2.1) (r_10.2.2.2))))))))))
set_option maxHeartbeats 4000000 in
set_option maxRecDepth 100000 in
theorem Ca_S_word {l : Launch} {G : go_G} {ad : Nat → Nat} (hl : l.stackTraces = false) {r : go_R} {x1 : Int32} {x2 : Int32} {v : go_V} (h : f_S_word x1 x2 v = some r) : Ca l G y_S_word (.code y_S_word c_S_word 4 (some .int) :: go_TT) (rmD 3 3) 1 ad [.ref (ad (0)), .int x1, .int x2] v r := by
  unfold f_S_word at h
  refine go_body (own := RS) (by decide) rfl (Nat.le_of_ble_eq_true rfl) ?_
  show Go l G M_S_word go_Ex0 (go_E G ad 1 r 3 18) ad v [(0, .ref (ad (0))), (1, .int x1), (2, .int x2)] 0 [] 0 0
  refine go_aload_n (d_S_word 0 rfl) rfl rfl ?_
  refine go_iload_n (d_S_word 1 rfl) rfl rfl ?_
  obtain ⟨r_1, o_2, h⟩ := bd_some h
  rcases tr_some h with ⟨z_3, h⟩ | ⟨z_3, h⟩
  · refine go_cV (As := [.int x1]) (rest := []) (st2 := [.ref (ad (r_1.2.2.1))]) (c2 := 1) (s2 := 6) rfl rfl rfl rfl (Ca_S_knownIncident hl o_2)  (d_S_word 2 rfl) cw_S_107 ⟨w_366, w_4⟩ rfl (by decide) rfl ⟨by decide, by decide⟩ rfl (Nat.le_of_ble_eq_true rfl) ⟨by decide, by decide⟩ (fun _ => ?_) (fun q => absurd z_3 q)
    refine go_astore_n (lv' := [(0, .ref (ad (0))), (1, .int x1), (2, .int x2), (3, .ref (ad (r_1.2.2.1)))]) (d_S_word 5 rfl) rfl (by decide) rfl ?_
    refine go_iload_n (d_S_word 6 rfl) rfl rfl ?_
    refine go_iconst (x := (0 : Int32)) (d_S_word 7 rfl) (by decide) ?_
    refine go_bipush (x := (99 : Int32)) (d_S_word 8 rfl) (by decide) ?_
    obtain ⟨r_4, o_5, h⟩ := bd_some h
    rcases tr_some h with ⟨z_6, h⟩ | ⟨z_6, h⟩
    · refine go_cS (As := [.int x2, .int ((0 : Int32)), .int ((99 : Int32))]) (rest := []) (st2 := []) (c2 := 2) (s2 := 12) rfl rfl rfl rfl (Ca_S_refuseOutside hl o_5)  (d_S_word 10 rfl) cw_S_46 w_265 ⟨by decide, by decide⟩ rfl (Nat.le_of_ble_eq_true rfl) ⟨by decide, by decide⟩ (fun _ => ?_) (fun q => absurd z_6 q)
      refine go_aload_n (d_S_word 13 rfl) rfl rfl ?_
      obtain ⟨r_7, o_8, h⟩ := bd_some h
      rcases tr_some h with ⟨z_9, h⟩ | ⟨z_9, h⟩
      · refine go_cS (As := [.ref (ad (r_1.2.2.1))]) (rest := []) (st2 := []) (c2 := 3) (s2 := 18) rfl rfl rfl rfl (Ca_S_refuseClosed hl o_8)  (d_S_word 14 rfl) cw_S_111 w_370 ⟨by decide, by decide⟩ rfl (Nat.le_of_ble_eq_true rfl) ⟨by decide, by decide⟩ (fun _ => ?_) (fun q => absurd z_9 q)
        refine go_aload_n (d_S_word 17 rfl) rfl rfl ?_
        refine go_iload_n (d_S_word 18 rfl) rfl rfl ?_
        obtain ⟨r_10, o_11, h⟩ := bd_some h
        obtain ⟨z_12, h⟩ := nt_some h
        refine go_cV (As := [.int x2]) (rest := []) (st2 := [.int (r_10.2.1)]) (c2 := 3) (s2 := 18) rfl rfl rfl rfl (Ca_S_hasTriggerForWord hl o_11)  (d_S_word 19 rfl) cw_S_129 ⟨w_409, w_9⟩ rfl (by decide) rfl ⟨by decide, by decide⟩ rfl (Nat.le_of_ble_eq_true rfl) ⟨by decide, by decide⟩ (fun _ => ?_) (fun q => absurd z_12 q)
        rcases br_some h with ⟨c_13, h⟩ | ⟨c_13, h⟩
        · refine go_if_ne (tgt := 35) (d_S_word 22 rfl) (by decide) (fun q => absurd (of_decide_eq_true c_13) q) (fun _ => ?_)
          refine go_aload_n (d_S_word 25 rfl) rfl rfl ?_
          refine go_dup (d_S_word 26 rfl) rfl ?_
          refine go_getI (d_S_word 27 rfl) fl_S_132 rfl rfl ?_
          refine go_iconst (x := (1 : Int32)) (d_S_word 30 rfl) (by decide) ?_
          refine go_iadd (d_S_word 31 rfl) ?_
          obtain ⟨v_14, ev_14, h⟩ := ln_some h
          refine go_putI (x := ((r_10.2.2.2 0 11) + (1 : Int32))) (d_S_word 32 rfl) fp_S_132 rfl rfl rfl rfl ?_
          rw [← ev_14]
          exact b_S_word_35 hl  (x1) (x2) (r_1.2.2.1) (v_14) h
        · refine go_if_ne (tgt := 35) (d_S_word 22 rfl) (by decide) (fun _ => ?_) (fun q => absurd q (of_decide_eq_false c_13))
          exact b_S_word_35 hl  (x1) (x2) (r_1.2.2.1) (r_10.2.2.2) h
      · exact go_cS (As := [.ref (ad (r_1.2.2.1))]) (rest := []) (st2 := []) (c2 := 3) (s2 := 18) rfl rfl rfl rfl (Ca_S_refuseClosed hl o_8)  (d_S_word 14 rfl) cw_S_111 w_370 ⟨by decide, by decide⟩ rfl (Nat.le_of_ble_eq_true rfl) ⟨by decide, by decide⟩ (fun q => absurd q z_9) (fun q => gx_out q rfl h (by decide) (by decide))
    · exact go_cS (As := [.int x2, .int ((0 : Int32)), .int ((99 : Int32))]) (rest := []) (st2 := []) (c2 := 2) (s2 := 12) rfl rfl rfl rfl (Ca_S_refuseOutside hl o_5)  (d_S_word 10 rfl) cw_S_46 w_265 ⟨by decide, by decide⟩ rfl (Nat.le_of_ble_eq_true rfl) ⟨by decide, by decide⟩ (fun q => absurd q z_6) (fun q => gx_out q rfl h (by decide) (by decide))
  · exact go_cV (As := [.int x1]) (rest := []) (st2 := [.ref (ad (r_1.2.2.1))]) (c2 := 1) (s2 := 6) rfl rfl rfl rfl (Ca_S_knownIncident hl o_2)  (d_S_word 2 rfl) cw_S_107 ⟨w_366, w_4⟩ rfl (by decide) rfl ⟨by decide, by decide⟩ rfl (Nat.le_of_ble_eq_true rfl) ⟨by decide, by decide⟩ (fun q => absurd q z_3) (fun q => gx_out q rfl h (by decide) (by decide))
abbrev M_S_hurt : go_M := (c_S_hurt, 5, (some .int), RS, [], rmD 3 3)
def f_S_hurt (x1 : Int32) (x2 : Int32) (v : go_V) : Option go_R := bd (f_S_knownIncident x1 v) (fun r_1 => tr r_1 (bd (f_S_refuseOutside x2 (0 : Int32) (10000 : Int32) r_1.2.2.2) (fun r_4 => tr r_4 (bd (f_S_refuseClosed r_1.2.2.1 r_4.2.2.2) (fun r_7 => tr r_7 (gd (Nat.beq (go_cls (r_1.2.2.1)) 0) (ln (u2 r_7.2.2.2 (r_1.2.2.1) 2 x2) (fun v_11 => bd (f_S_happened r_1.2.2.1 (1 : Int32) ((r_7.2.2.2 (r_1.2.2.1) 2) + (1 : Int32)) x2 v_11) (fun r_12 => nt r_12 (some (0, r_12.2.1, 0, r_12.2.2.2)))))))))))
set_option maxHeartbeats 4000000 in
set_option maxRecDepth 100000 in
theorem Ca_S_hurt {l : Launch} {G : go_G} {ad : Nat → Nat} (hl : l.stackTraces = false) {r : go_R} {x1 : Int32} {x2 : Int32} {v : go_V} (h : f_S_hurt x1 x2 v = some r) : Ca l G y_S_hurt (.code y_S_hurt c_S_hurt 5 (some .int) :: go_TT) (rmD 3 3) 1 ad [.ref (ad (0)), .int x1, .int x2] v r := by
  unfold f_S_hurt at h
  refine go_body (own := RS) (by decide) rfl (Nat.le_of_ble_eq_true rfl) ?_
  show Go l G M_S_hurt go_Ex0 (go_E G ad 1 r 3 18) ad v [(0, .ref (ad (0))), (1, .int x1), (2, .int x2)] 0 [] 0 0
  refine go_aload_n (d_S_hurt 0 rfl) rfl rfl ?_
  refine go_iload_n (d_S_hurt 1 rfl) rfl rfl ?_
  obtain ⟨r_1, o_2, h⟩ := bd_some h
  rcases tr_some h with ⟨z_3, h⟩ | ⟨z_3, h⟩
  · refine go_cV (As := [.int x1]) (rest := []) (st2 := [.ref (ad (r_1.2.2.1))]) (c2 := 1) (s2 := 6) rfl rfl rfl rfl (Ca_S_knownIncident hl o_2)  (d_S_hurt 2 rfl) cw_S_107 ⟨w_366, w_4⟩ rfl (by decide) rfl ⟨by decide, by decide⟩ rfl (Nat.le_of_ble_eq_true rfl) ⟨by decide, by decide⟩ (fun _ => ?_) (fun q => absurd z_3 q)
    refine go_astore_n (lv' := [(0, .ref (ad (0))), (1, .int x1), (2, .int x2), (3, .ref (ad (r_1.2.2.1)))]) (d_S_hurt 5 rfl) rfl (by decide) rfl ?_
    refine go_iload_n (d_S_hurt 6 rfl) rfl rfl ?_
    refine go_iconst (x := (0 : Int32)) (d_S_hurt 7 rfl) (by decide) ?_
    refine go_sipush (x := (10000 : Int32)) (d_S_hurt 8 rfl) (by decide) ?_
    obtain ⟨r_4, o_5, h⟩ := bd_some h
    rcases tr_some h with ⟨z_6, h⟩ | ⟨z_6, h⟩
    · refine go_cS (As := [.int x2, .int ((0 : Int32)), .int ((10000 : Int32))]) (rest := []) (st2 := []) (c2 := 2) (s2 := 12) rfl rfl rfl rfl (Ca_S_refuseOutside hl o_5)  (d_S_hurt 11 rfl) cw_S_46 w_265 ⟨by decide, by decide⟩ rfl (Nat.le_of_ble_eq_true rfl) ⟨by decide, by decide⟩ (fun _ => ?_) (fun q => absurd z_6 q)
      refine go_aload_n (d_S_hurt 14 rfl) rfl rfl ?_
      obtain ⟨r_7, o_8, h⟩ := bd_some h
      rcases tr_some h with ⟨z_9, h⟩ | ⟨z_9, h⟩
      · refine go_cS (As := [.ref (ad (r_1.2.2.1))]) (rest := []) (st2 := []) (c2 := 3) (s2 := 18) rfl rfl rfl rfl (Ca_S_refuseClosed hl o_8)  (d_S_hurt 15 rfl) cw_S_111 w_370 ⟨by decide, by decide⟩ rfl (Nat.le_of_ble_eq_true rfl) ⟨by decide, by decide⟩ (fun _ => ?_) (fun q => absurd z_9 q)
        refine go_aload_n (d_S_hurt 18 rfl) rfl rfl ?_
        obtain ⟨g_10, h⟩ := gd_some h
        refine go_getI (d_S_hurt 19 rfl) fl_S_139 (Nat.eq_of_beq_eq_true g_10) rfl ?_
        refine go_istore (lv' := [(0, .ref (ad (0))), (1, .int x1), (2, .int x2), (3, .ref (ad (r_1.2.2.1))), (4, .int ((r_7.2.2.2 (r_1.2.2.1) 2)))]) (d_S_hurt 22 rfl) (by decide) rfl ?_
        refine go_aload_n (d_S_hurt 24 rfl) rfl rfl ?_
        refine go_iload_n (d_S_hurt 25 rfl) rfl rfl ?_
        obtain ⟨v_11, ev_11, h⟩ := ln_some h
        refine go_putI (x := x2) (d_S_hurt 26 rfl) fp_S_139 (Nat.eq_of_beq_eq_true g_10) rfl rfl rfl ?_
        rw [← ev_11]
        refine go_aload_n (d_S_hurt 29 rfl) rfl rfl ?_
        refine go_aload_n (d_S_hurt 30 rfl) rfl rfl ?_
        refine go_iconst (x := (1 : Int32)) (d_S_hurt 31 rfl) (by decide) ?_
        refine go_iload (d_S_hurt 32 rfl) rfl ?_
        refine go_iconst (x := (1 : Int32)) (d_S_hurt 34 rfl) (by decide) ?_
        refine go_iadd (d_S_hurt 35 rfl) ?_
        refine go_iload_n (d_S_hurt 36 rfl) rfl rfl ?_
        obtain ⟨r_12, o_13, h⟩ := bd_some h
        obtain ⟨z_14, h⟩ := nt_some h
        refine go_cV (As := [.ref (ad (r_1.2.2.1)), .int ((1 : Int32)), .int (((r_7.2.2.2 (r_1.2.2.1) 2) + (1 : Int32))), .int x2]) (rest := []) (st2 := [.int (r_12.2.1)]) (c2 := 3) (s2 := 18) rfl rfl rfl rfl (Ca_S_happened hl o_13)  (d_S_hurt 37 rfl) cw_S_135 ⟨w_417, w_11⟩ rfl (by decide) rfl ⟨by decide, by decide⟩ rfl (Nat.le_of_ble_eq_true rfl) ⟨by decide, by decide⟩ (fun _ => ?_) (fun q => absurd z_14 q)
        exact go_iret (d_S_hurt 40 rfl) rfl rfl (Option.some.inj h) (by decide) (by decide)
      · exact go_cS (As := [.ref (ad (r_1.2.2.1))]) (rest := []) (st2 := []) (c2 := 3) (s2 := 18) rfl rfl rfl rfl (Ca_S_refuseClosed hl o_8)  (d_S_hurt 15 rfl) cw_S_111 w_370 ⟨by decide, by decide⟩ rfl (Nat.le_of_ble_eq_true rfl) ⟨by decide, by decide⟩ (fun q => absurd q z_9) (fun q => gx_out q rfl h (by decide) (by decide))
    · exact go_cS (As := [.int x2, .int ((0 : Int32)), .int ((10000 : Int32))]) (rest := []) (st2 := []) (c2 := 2) (s2 := 12) rfl rfl rfl rfl (Ca_S_refuseOutside hl o_5)  (d_S_hurt 11 rfl) cw_S_46 w_265 ⟨by decide, by decide⟩ rfl (Nat.le_of_ble_eq_true rfl) ⟨by decide, by decide⟩ (fun q => absurd q z_6) (fun q => gx_out q rfl h (by decide) (by decide))
  · exact go_cV (As := [.int x1]) (rest := []) (st2 := [.ref (ad (r_1.2.2.1))]) (c2 := 1) (s2 := 6) rfl rfl rfl rfl (Ca_S_knownIncident hl o_2)  (d_S_hurt 2 rfl) cw_S_107 ⟨w_366, w_4⟩ rfl (by decide) rfl ⟨by decide, by decide⟩ rfl (Nat.le_of_ble_eq_true rfl) ⟨by decide, by decide⟩ (fun q => absurd q z_3) (fun q => gx_out q rfl h (by decide) (by decide))
abbrev M_S_ask : go_M := (c_S_ask, 4, (some .int), RS, [], rmD 3 3)
def f_S_ask (x1 : Int32) (x2 : Int32) (v : go_V) : Option go_R := bd (f_S_knownIncident x1 v) (fun r_1 => tr r_1 (bd (f_S_refuseOutside x2 (0 : Int32) (9 : Int32) r_1.2.2.2) (fun r_4 => tr r_4 (bd (f_S_refuseClosed r_1.2.2.1 r_4.2.2.2) (fun r_7 => tr r_7 (bd (f_S_happened r_1.2.2.1 (3 : Int32) x2 x2 r_7.2.2.2) (fun r_10 => nt r_10 (some (0, r_10.2.1, 0, r_10.2.2.2)))))))))
set_option maxHeartbeats 4000000 in
set_option maxRecDepth 100000 in
theorem Ca_S_ask {l : Launch} {G : go_G} {ad : Nat → Nat} (hl : l.stackTraces = false) {r : go_R} {x1 : Int32} {x2 : Int32} {v : go_V} (h : f_S_ask x1 x2 v = some r) : Ca l G y_S_ask (.code y_S_ask c_S_ask 4 (some .int) :: go_TT) (rmD 3 3) 1 ad [.ref (ad (0)), .int x1, .int x2] v r := by
  unfold f_S_ask at h
  refine go_body (own := RS) (by decide) rfl (Nat.le_of_ble_eq_true rfl) ?_
  show Go l G M_S_ask go_Ex0 (go_E G ad 1 r 3 18) ad v [(0, .ref (ad (0))), (1, .int x1), (2, .int x2)] 0 [] 0 0
  refine go_aload_n (d_S_ask 0 rfl) rfl rfl ?_
  refine go_iload_n (d_S_ask 1 rfl) rfl rfl ?_
  obtain ⟨r_1, o_2, h⟩ := bd_some h
  rcases tr_some h with ⟨z_3, h⟩ | ⟨z_3, h⟩
  · refine go_cV (As := [.int x1]) (rest := []) (st2 := [.ref (ad (r_1.2.2.1))]) (c2 := 1) (s2 := 6) rfl rfl rfl rfl (Ca_S_knownIncident hl o_2)  (d_S_ask 2 rfl) cw_S_107 ⟨w_366, w_4⟩ rfl (by decide) rfl ⟨by decide, by decide⟩ rfl (Nat.le_of_ble_eq_true rfl) ⟨by decide, by decide⟩ (fun _ => ?_) (fun q => absurd z_3 q)
    refine go_astore_n (lv' := [(0, .ref (ad (0))), (1, .int x1), (2, .int x2), (3, .ref (ad (r_1.2.2.1)))]) (d_S_ask 5 rfl) rfl (by decide) rfl ?_
    refine go_iload_n (d_S_ask 6 rfl) rfl rfl ?_
    refine go_iconst (x := (0 : Int32)) (d_S_ask 7 rfl) (by decide) ?_
    refine go_bipush (x := (9 : Int32)) (d_S_ask 8 rfl) (by decide) ?_
    obtain ⟨r_4, o_5, h⟩ := bd_some h
    rcases tr_some h with ⟨z_6, h⟩ | ⟨z_6, h⟩
    · refine go_cS (As := [.int x2, .int ((0 : Int32)), .int ((9 : Int32))]) (rest := []) (st2 := []) (c2 := 2) (s2 := 12) rfl rfl rfl rfl (Ca_S_refuseOutside hl o_5)  (d_S_ask 10 rfl) cw_S_46 w_265 ⟨by decide, by decide⟩ rfl (Nat.le_of_ble_eq_true rfl) ⟨by decide, by decide⟩ (fun _ => ?_) (fun q => absurd z_6 q)
      refine go_aload_n (d_S_ask 13 rfl) rfl rfl ?_
      obtain ⟨r_7, o_8, h⟩ := bd_some h
      rcases tr_some h with ⟨z_9, h⟩ | ⟨z_9, h⟩
      · refine go_cS (As := [.ref (ad (r_1.2.2.1))]) (rest := []) (st2 := []) (c2 := 3) (s2 := 18) rfl rfl rfl rfl (Ca_S_refuseClosed hl o_8)  (d_S_ask 14 rfl) cw_S_111 w_370 ⟨by decide, by decide⟩ rfl (Nat.le_of_ble_eq_true rfl) ⟨by decide, by decide⟩ (fun _ => ?_) (fun q => absurd z_9 q)
        refine go_aload_n (d_S_ask 17 rfl) rfl rfl ?_
        refine go_aload_n (d_S_ask 18 rfl) rfl rfl ?_
        refine go_iconst (x := (3 : Int32)) (d_S_ask 19 rfl) (by decide) ?_
        refine go_iload_n (d_S_ask 20 rfl) rfl rfl ?_
        refine go_iload_n (d_S_ask 21 rfl) rfl rfl ?_
        obtain ⟨r_10, o_11, h⟩ := bd_some h
        obtain ⟨z_12, h⟩ := nt_some h
        refine go_cV (As := [.ref (ad (r_1.2.2.1)), .int ((3 : Int32)), .int x2, .int x2]) (rest := []) (st2 := [.int (r_10.2.1)]) (c2 := 3) (s2 := 18) rfl rfl rfl rfl (Ca_S_happened hl o_11)  (d_S_ask 22 rfl) cw_S_135 ⟨w_417, w_11⟩ rfl (by decide) rfl ⟨by decide, by decide⟩ rfl (Nat.le_of_ble_eq_true rfl) ⟨by decide, by decide⟩ (fun _ => ?_) (fun q => absurd z_12 q)
        exact go_iret (d_S_ask 25 rfl) rfl rfl (Option.some.inj h) (by decide) (by decide)
      · exact go_cS (As := [.ref (ad (r_1.2.2.1))]) (rest := []) (st2 := []) (c2 := 3) (s2 := 18) rfl rfl rfl rfl (Ca_S_refuseClosed hl o_8)  (d_S_ask 14 rfl) cw_S_111 w_370 ⟨by decide, by decide⟩ rfl (Nat.le_of_ble_eq_true rfl) ⟨by decide, by decide⟩ (fun q => absurd q z_9) (fun q => gx_out q rfl h (by decide) (by decide))
    · exact go_cS (As := [.int x2, .int ((0 : Int32)), .int ((9 : Int32))]) (rest := []) (st2 := []) (c2 := 2) (s2 := 12) rfl rfl rfl rfl (Ca_S_refuseOutside hl o_5)  (d_S_ask 10 rfl) cw_S_46 w_265 ⟨by decide, by decide⟩ rfl (Nat.le_of_ble_eq_true rfl) ⟨by decide, by decide⟩ (fun q => absurd q z_6) (fun q => gx_out q rfl h (by decide) (by decide))
  · exact go_cV (As := [.int x1]) (rest := []) (st2 := [.ref (ad (r_1.2.2.1))]) (c2 := 1) (s2 := 6) rfl rfl rfl rfl (Ca_S_knownIncident hl o_2)  (d_S_ask 2 rfl) cw_S_107 ⟨w_366, w_4⟩ rfl (by decide) rfl ⟨by decide, by decide⟩ rfl (Nat.le_of_ble_eq_true rfl) ⟨by decide, by decide⟩ (fun q => absurd q z_3) (fun q => gx_out q rfl h (by decide) (by decide))
abbrev M_S_tell : go_M := (c_S_tell, 3, none, RS, [], rmD 1 2)
def f_S_tell (x1 : Int32) (v : go_V) : Option go_R := bd (f_S_knownIncident x1 v) (fun r_1 => tr r_1 (bd (f_S_refuseClosed r_1.2.2.1 r_1.2.2.2) (fun r_4 => tr r_4 (gd (Nat.beq (go_cls (r_1.2.2.1)) 0) (ln (u2 r_4.2.2.2 (r_1.2.2.1) 3 (r_4.2.2.2 0 2)) (fun v_8 => some (0, 0, 0, v_8)))))))
set_option maxHeartbeats 4000000 in
set_option maxRecDepth 100000 in
theorem Ca_S_tell {l : Launch} {G : go_G} {ad : Nat → Nat} (hl : l.stackTraces = false) {r : go_R} {x1 : Int32} {v : go_V} (h : f_S_tell x1 v = some r) : Ca l G y_S_tell (.code y_S_tell c_S_tell 3 none :: go_TT) (rmD 1 2) 0 ad [.ref (ad (0)), .int x1] v r := by
  unfold f_S_tell at h
  refine go_body (own := RS) (by decide) rfl (Nat.le_of_ble_eq_true rfl) ?_
  show Go l G M_S_tell go_Ex0 (go_E G ad 0 r 2 12) ad v [(0, .ref (ad (0))), (1, .int x1)] 0 [] 0 0
  refine go_aload_n (d_S_tell 0 rfl) rfl rfl ?_
  refine go_iload_n (d_S_tell 1 rfl) rfl rfl ?_
  obtain ⟨r_1, o_2, h⟩ := bd_some h
  rcases tr_some h with ⟨z_3, h⟩ | ⟨z_3, h⟩
  · refine go_cV (As := [.int x1]) (rest := []) (st2 := [.ref (ad (r_1.2.2.1))]) (c2 := 1) (s2 := 6) rfl rfl rfl rfl (Ca_S_knownIncident hl o_2)  (d_S_tell 2 rfl) cw_S_107 ⟨w_366, w_4⟩ rfl (by decide) rfl ⟨by decide, by decide⟩ rfl (Nat.le_of_ble_eq_true rfl) ⟨by decide, by decide⟩ (fun _ => ?_) (fun q => absurd z_3 q)
    refine go_astore_n (lv' := [(0, .ref (ad (0))), (1, .int x1), (2, .ref (ad (r_1.2.2.1)))]) (d_S_tell 5 rfl) rfl (by decide) rfl ?_
    refine go_aload_n (d_S_tell 6 rfl) rfl rfl ?_
    obtain ⟨r_4, o_5, h⟩ := bd_some h
    rcases tr_some h with ⟨z_6, h⟩ | ⟨z_6, h⟩
    · refine go_cS (As := [.ref (ad (r_1.2.2.1))]) (rest := []) (st2 := []) (c2 := 2) (s2 := 12) rfl rfl rfl rfl (Ca_S_refuseClosed hl o_5)  (d_S_tell 7 rfl) cw_S_111 w_370 ⟨by decide, by decide⟩ rfl (Nat.le_of_ble_eq_true rfl) ⟨by decide, by decide⟩ (fun _ => ?_) (fun q => absurd z_6 q)
      refine go_aload_n (d_S_tell 10 rfl) rfl rfl ?_
      refine go_aload_n (d_S_tell 11 rfl) rfl rfl ?_
      refine go_getI (d_S_tell 12 rfl) fl_S_101 rfl rfl ?_
      obtain ⟨g_7, h⟩ := gd_some h
      obtain ⟨v_8, ev_8, h⟩ := ln_some h
      refine go_putI (x := (r_4.2.2.2 0 2)) (d_S_tell 15 rfl) fp_S_104 (Nat.eq_of_beq_eq_true g_7) rfl rfl rfl ?_
      rw [← ev_8]
      exact go_vret (d_S_tell 18 rfl) rfl (Option.some.inj h) (by decide) (by decide)
    · exact go_cS (As := [.ref (ad (r_1.2.2.1))]) (rest := []) (st2 := []) (c2 := 2) (s2 := 12) rfl rfl rfl rfl (Ca_S_refuseClosed hl o_5)  (d_S_tell 7 rfl) cw_S_111 w_370 ⟨by decide, by decide⟩ rfl (Nat.le_of_ble_eq_true rfl) ⟨by decide, by decide⟩ (fun q => absurd q z_6) (fun q => gx_out q rfl h (by decide) (by decide))
  · exact go_cV (As := [.int x1]) (rest := []) (st2 := [.ref (ad (r_1.2.2.1))]) (c2 := 1) (s2 := 6) rfl rfl rfl rfl (Ca_S_knownIncident hl o_2)  (d_S_tell 2 rfl) cw_S_107 ⟨w_366, w_4⟩ rfl (by decide) rfl ⟨by decide, by decide⟩ rfl (Nat.le_of_ble_eq_true rfl) ⟨by decide, by decide⟩ (fun q => absurd q z_3) (fun q => gx_out q rfl h (by decide) (by decide))
abbrev M_S_calm : go_M := (c_S_calm, 6, (some .int), RS, [], rmD 3 4)
def f_S_calm_53  : Nat → Int32 → Int32 → Nat → Int32 → Int32 → go_V → Option go_R
  | 0, _, _, _, _, _, _ => none
  | n + 1, x1, x2, k3, x4, x5, v => br (decide ((8 : Int32) ≤ x5)) (ln (u2 v 0 12 ((v 0 12) + x4)) (fun v_2 => some (0, x4, 0, v_2))) (gd (go_in x2 10) (ln (go_elt 1 x2.toNatClampNeg) (fun k_4 => gd (Nat.beq (go_cls (k_4)) 10) (gd (go_in x5 (go_len (k_4))) (bd (f_S_recallTooMuch x1 x5 (v (k_4) x5.toNatClampNeg) v) (fun r_7 => nt r_7 (f_S_calm_53 n (x1) (x2) (k3) ((x4 + r_7.2.1)) ((x5 + 1)) (r_7.2.2.2))))))))
set_option maxHeartbeats 4000000 in
set_option maxRecDepth 100000 in
theorem b_S_calm_53 {l : Launch} {G : go_G} {ad : Nat → Nat} (hl : l.stackTraces = false) {r : go_R}  : ∀ (n : Nat) (x1 : Int32) (x2 : Int32) (k3 : Nat) (x4 : Int32) (x5 : Int32) (v : go_V), f_S_calm_53  n x1 x2 k3 x4 x5 v = some r → Go l G M_S_calm go_Ex0 (go_E G ad 1 r 4 24) ad v [(0, .ref (ad (0))), (1, .int x1), (2, .int x2), (3, .ref (ad (k3))), (4, .int x4), (5, .int x5)] 53 [] 3 18 := by
  intro n
  induction n with
  | zero =>
    intro x1 x2 k3 x4 x5 v h
    cases h
  | succ n ih =>
    intro x1 x2 k3 x4 x5 v h
    rw [f_S_calm_53] at h
    refine go_iload (d_S_calm 53 rfl) rfl ?_
    refine go_bipush (x := (8 : Int32)) (d_S_calm 55 rfl) (by decide) ?_
    rcases br_some h with ⟨c_1, h⟩ | ⟨c_1, h⟩
    · refine go_icmp_ge (tgt := 87) (d_S_calm 57 rfl) (by decide) (fun _ => ?_) (fun q => absurd (of_decide_eq_true c_1) q)
      refine go_aload_n (d_S_calm 87 rfl) rfl rfl ?_
      refine go_dup (d_S_calm 88 rfl) rfl ?_
      refine go_getI (d_S_calm 89 rfl) fl_S_154 rfl rfl ?_
      refine go_iload (d_S_calm 92 rfl) rfl ?_
      refine go_iadd (d_S_calm 94 rfl) ?_
      obtain ⟨v_2, ev_2, h⟩ := ln_some h
      refine go_putI (x := ((v 0 12) + x4)) (d_S_calm 95 rfl) fp_S_154 rfl rfl rfl rfl ?_
      rw [← ev_2]
      refine go_iload (d_S_calm 98 rfl) rfl ?_
      exact go_iret (d_S_calm 100 rfl) rfl rfl (Option.some.inj h) (by decide) (by decide)
    · refine go_icmp_ge (tgt := 87) (d_S_calm 57 rfl) (by decide) (fun q => absurd q (of_decide_eq_false c_1)) (fun _ => ?_)
      refine go_iload (d_S_calm 60 rfl) rfl ?_
      refine go_aload_n (d_S_calm 62 rfl) rfl rfl ?_
      refine go_iload_n (d_S_calm 63 rfl) rfl rfl ?_
      refine go_iload (d_S_calm 64 rfl) rfl ?_
      refine go_aload_n (d_S_calm 66 rfl) rfl rfl ?_
      refine go_getR (d_S_calm 67 rfl) fl_S_11 rfl rfl ?_
      show Go _ _ _ _ _ _ _ _ _ (.ref (ad (1)) :: .int x5 :: .int x1 :: .ref (ad (0)) :: .int x4 :: []) _ _
      refine go_iload_n (d_S_calm 70 rfl) rfl rfl ?_
      obtain ⟨g_3, h⟩ := gd_some h
      obtain ⟨k_4, ek_4, h⟩ := ln_some h
      refine go_aald (c := 16) (d_S_calm 71 rfl) rfl (by decide) g_3 ?_
      rw [← ek_4]
      refine go_iload (d_S_calm 72 rfl) rfl ?_
      obtain ⟨g_5, h⟩ := gd_some h
      obtain ⟨g_6, h⟩ := gd_some h
      refine go_iald (d_S_calm 74 rfl) (Nat.eq_of_beq_eq_true g_5) g_6 ?_
      obtain ⟨r_7, o_8, h⟩ := bd_some h
      obtain ⟨z_9, h⟩ := nt_some h
      refine go_cV (As := [.int x1, .int x5, .int ((v (k_4) x5.toNatClampNeg))]) (rest := [.int x4]) (st2 := [.int (r_7.2.1), .int x4]) (c2 := 3) (s2 := 18) rfl rfl rfl rfl (Ca_S_recallTooMuch hl o_8)  (d_S_calm 75 rfl) cw_S_150 ⟨w_450, w_12⟩ rfl (by decide) rfl ⟨by decide, by decide⟩ rfl (Nat.le_of_ble_eq_true rfl) ⟨by decide, by decide⟩ (fun _ => ?_) (fun q => absurd z_9 q)
      refine go_iadd (d_S_calm 78 rfl) ?_
      refine go_istore (lv' := [(0, .ref (ad (0))), (1, .int x1), (2, .int x2), (3, .ref (ad (k3))), (4, .int ((x4 + r_7.2.1))), (5, .int x5)]) (d_S_calm 79 rfl) (by decide) rfl ?_
      refine go_iinc (y := (x5 + 1)) (lv' := [(0, .ref (ad (0))), (1, .int x1), (2, .int x2), (3, .ref (ad (k3))), (4, .int ((x4 + r_7.2.1))), (5, .int ((x5 + 1)))]) (d_S_calm 81 rfl) rfl rfl (by decide) rfl ?_
      refine go_goto (tgt := 53) (d_S_calm 84 rfl) (by decide) ?_
      exact ih (x1) (x2) (k3) ((x4 + r_7.2.1)) ((x5 + 1)) (r_7.2.2.2) h
def f_S_calm (x1 : Int32) (x2 : Int32) (v : go_V) : Option go_R := bd (f_S_knownIncident x1 v) (fun r_1 => tr r_1 (bd (f_S_refuseUnknownStep x2 r_1.2.2.2) (fun r_4 => tr r_4 (bd (f_S_refuseClosed r_1.2.2.1 r_4.2.2.2) (fun r_7 => tr r_7 (gd (Nat.beq (go_cls (r_1.2.2.1)) 0) (br (decide (x2 < (r_7.2.2.2 (r_1.2.2.1) 1))) (ln (u2 r_7.2.2.2 (r_1.2.2.1) 1 x2) (fun v_12 => ln (u2 v_12 (r_1.2.2.1) 6 ((v_12 (r_1.2.2.1) 6) + (1 : Int32))) (fun v_13 => f_S_calm_53  FU (x1) (x2) (r_1.2.2.1) ((0 : Int32)) ((0 : Int32)) (v_13)))) (some (3, 0, 0, r_7.2.2.2)))))))))
set_option maxHeartbeats 4000000 in
set_option maxRecDepth 100000 in
theorem Ca_S_calm {l : Launch} {G : go_G} {ad : Nat → Nat} (hl : l.stackTraces = false) {r : go_R} {x1 : Int32} {x2 : Int32} {v : go_V} (h : f_S_calm x1 x2 v = some r) : Ca l G y_S_calm (.code y_S_calm c_S_calm 6 (some .int) :: go_TT) (rmD 3 4) 1 ad [.ref (ad (0)), .int x1, .int x2] v r := by
  unfold f_S_calm at h
  refine go_body (own := RS) (by decide) rfl (Nat.le_of_ble_eq_true rfl) ?_
  show Go l G M_S_calm go_Ex0 (go_E G ad 1 r 4 24) ad v [(0, .ref (ad (0))), (1, .int x1), (2, .int x2)] 0 [] 0 0
  refine go_aload_n (d_S_calm 0 rfl) rfl rfl ?_
  refine go_iload_n (d_S_calm 1 rfl) rfl rfl ?_
  obtain ⟨r_1, o_2, h⟩ := bd_some h
  rcases tr_some h with ⟨z_3, h⟩ | ⟨z_3, h⟩
  · refine go_cV (As := [.int x1]) (rest := []) (st2 := [.ref (ad (r_1.2.2.1))]) (c2 := 1) (s2 := 6) rfl rfl rfl rfl (Ca_S_knownIncident hl o_2)  (d_S_calm 2 rfl) cw_S_107 ⟨w_366, w_4⟩ rfl (by decide) rfl ⟨by decide, by decide⟩ rfl (Nat.le_of_ble_eq_true rfl) ⟨by decide, by decide⟩ (fun _ => ?_) (fun q => absurd z_3 q)
    refine go_astore_n (lv' := [(0, .ref (ad (0))), (1, .int x1), (2, .int x2), (3, .ref (ad (r_1.2.2.1)))]) (d_S_calm 5 rfl) rfl (by decide) rfl ?_
    refine go_iload_n (d_S_calm 6 rfl) rfl rfl ?_
    obtain ⟨r_4, o_5, h⟩ := bd_some h
    rcases tr_some h with ⟨z_6, h⟩ | ⟨z_6, h⟩
    · refine go_cS (As := [.int x2]) (rest := []) (st2 := []) (c2 := 2) (s2 := 12) rfl rfl rfl rfl (Ca_S_refuseUnknownStep hl o_5)  (d_S_calm 7 rfl) cw_S_39 w_189 ⟨by decide, by decide⟩ rfl (Nat.le_of_ble_eq_true rfl) ⟨by decide, by decide⟩ (fun _ => ?_) (fun q => absurd z_6 q)
      refine go_aload_n (d_S_calm 10 rfl) rfl rfl ?_
      obtain ⟨r_7, o_8, h⟩ := bd_some h
      rcases tr_some h with ⟨z_9, h⟩ | ⟨z_9, h⟩
      · refine go_cS (As := [.ref (ad (r_1.2.2.1))]) (rest := []) (st2 := []) (c2 := 3) (s2 := 18) rfl rfl rfl rfl (Ca_S_refuseClosed hl o_8)  (d_S_calm 11 rfl) cw_S_111 w_370 ⟨by decide, by decide⟩ rfl (Nat.le_of_ble_eq_true rfl) ⟨by decide, by decide⟩ (fun _ => ?_) (fun q => absurd z_9 q)
        refine go_aload_n (d_S_calm 14 rfl) rfl rfl ?_
        obtain ⟨g_10, h⟩ := gd_some h
        refine go_getI (d_S_calm 15 rfl) fl_S_142 (Nat.eq_of_beq_eq_true g_10) rfl ?_
        refine go_iload_n (d_S_calm 18 rfl) rfl rfl ?_
        rcases br_some h with ⟨c_11, h⟩ | ⟨c_11, h⟩
        · refine go_icmp_gt (tgt := 32) (d_S_calm 19 rfl) (by decide) (fun _ => ?_) (fun q => absurd (of_decide_eq_true c_11) q)
          refine go_aload_n (d_S_calm 32 rfl) rfl rfl ?_
          refine go_iload_n (d_S_calm 33 rfl) rfl rfl ?_
          obtain ⟨v_12, ev_12, h⟩ := ln_some h
          refine go_putI (x := x2) (d_S_calm 34 rfl) fp_S_142 (Nat.eq_of_beq_eq_true g_10) rfl rfl rfl ?_
          rw [← ev_12]
          refine go_aload_n (d_S_calm 37 rfl) rfl rfl ?_
          refine go_dup (d_S_calm 38 rfl) rfl ?_
          refine go_getI (d_S_calm 39 rfl) fl_S_147 (Nat.eq_of_beq_eq_true g_10) rfl ?_
          refine go_iconst (x := (1 : Int32)) (d_S_calm 42 rfl) (by decide) ?_
          refine go_iadd (d_S_calm 43 rfl) ?_
          obtain ⟨v_13, ev_13, h⟩ := ln_some h
          refine go_putI (x := ((v_12 (r_1.2.2.1) 6) + (1 : Int32))) (d_S_calm 44 rfl) fp_S_147 (Nat.eq_of_beq_eq_true g_10) rfl rfl rfl ?_
          rw [← ev_13]
          refine go_iconst (x := (0 : Int32)) (d_S_calm 47 rfl) (by decide) ?_
          refine go_istore (lv' := [(0, .ref (ad (0))), (1, .int x1), (2, .int x2), (3, .ref (ad (r_1.2.2.1))), (4, .int ((0 : Int32)))]) (d_S_calm 48 rfl) (by decide) rfl ?_
          refine go_iconst (x := (0 : Int32)) (d_S_calm 50 rfl) (by decide) ?_
          refine go_istore (lv' := [(0, .ref (ad (0))), (1, .int x1), (2, .int x2), (3, .ref (ad (r_1.2.2.1))), (4, .int ((0 : Int32))), (5, .int ((0 : Int32)))]) (d_S_calm 51 rfl) (by decide) rfl ?_
          exact b_S_calm_53 hl  FU (x1) (x2) (r_1.2.2.1) ((0 : Int32)) ((0 : Int32)) (v_13) h
        · refine go_icmp_gt (tgt := 32) (d_S_calm 19 rfl) (by decide) (fun q => absurd q (of_decide_eq_false c_11)) (fun _ => ?_)
          exact go_thr (text := "the incident\'s step is not above this one") hl xs_54_58_3 (by decide +kernel) rfl rfl (d_S_calm 22 rfl) (d_S_calm 25 rfl) (d_S_calm 26 rfl) (d_S_calm 28 rfl) (d_S_calm 31 rfl) ⟨by decide, Nat.le_of_ble_eq_true rfl, by decide, by decide⟩ (Option.some.inj h) (by decide) (by decide)
      · exact go_cS (As := [.ref (ad (r_1.2.2.1))]) (rest := []) (st2 := []) (c2 := 3) (s2 := 18) rfl rfl rfl rfl (Ca_S_refuseClosed hl o_8)  (d_S_calm 11 rfl) cw_S_111 w_370 ⟨by decide, by decide⟩ rfl (Nat.le_of_ble_eq_true rfl) ⟨by decide, by decide⟩ (fun q => absurd q z_9) (fun q => gx_out q rfl h (by decide) (by decide))
    · exact go_cS (As := [.int x2]) (rest := []) (st2 := []) (c2 := 2) (s2 := 12) rfl rfl rfl rfl (Ca_S_refuseUnknownStep hl o_5)  (d_S_calm 7 rfl) cw_S_39 w_189 ⟨by decide, by decide⟩ rfl (Nat.le_of_ble_eq_true rfl) ⟨by decide, by decide⟩ (fun q => absurd q z_6) (fun q => gx_out q rfl h (by decide) (by decide))
  · exact go_cV (As := [.int x1]) (rest := []) (st2 := [.ref (ad (r_1.2.2.1))]) (c2 := 1) (s2 := 6) rfl rfl rfl rfl (Ca_S_knownIncident hl o_2)  (d_S_calm 2 rfl) cw_S_107 ⟨w_366, w_4⟩ rfl (by decide) rfl ⟨by decide, by decide⟩ rfl (Nat.le_of_ble_eq_true rfl) ⟨by decide, by decide⟩ (fun q => absurd q z_3) (fun q => gx_out q rfl h (by decide) (by decide))
abbrev M_S_unit : go_M := (c_S_unit, 3, (some .int), RS, [], rmD 1 2)
def f_S_unit (x1 : Int32) (v : go_V) : Option go_R := bd (f_S_refuseUnknownSkill x1 v) (fun r_1 => tr r_1 (br (decide ((r_1.2.2.2 0 10) < (40 : Int32))) (ln (u2 r_1.2.2.2 0 10 ((r_1.2.2.2 0 10) + (1 : Int32))) (fun v_5 => gd (go_in (r_1.2.2.2 0 10) 40) (ln (go_elt 15 (r_1.2.2.2 0 10).toNatClampNeg) (fun k_7 => gd (Nat.beq (go_cls (k_7)) 2) (ln (u2 v_5 (k_7) 0 x1) (fun v_9 => some (0, (r_1.2.2.2 0 10), 0, v_9))))))) (some (4, 0, 0, r_1.2.2.2))))
set_option maxHeartbeats 4000000 in
set_option maxRecDepth 100000 in
theorem Ca_S_unit {l : Launch} {G : go_G} {ad : Nat → Nat} (hl : l.stackTraces = false) {r : go_R} {x1 : Int32} {v : go_V} (h : f_S_unit x1 v = some r) : Ca l G y_S_unit (.code y_S_unit c_S_unit 3 (some .int) :: go_TT) (rmD 1 2) 1 ad [.ref (ad (0)), .int x1] v r := by
  unfold f_S_unit at h
  refine go_body (own := RS) (by decide) rfl (Nat.le_of_ble_eq_true rfl) ?_
  show Go l G M_S_unit go_Ex0 (go_E G ad 1 r 2 12) ad v [(0, .ref (ad (0))), (1, .int x1)] 0 [] 0 0
  refine go_iload_n (d_S_unit 0 rfl) rfl rfl ?_
  obtain ⟨r_1, o_2, h⟩ := bd_some h
  rcases tr_some h with ⟨z_3, h⟩ | ⟨z_3, h⟩
  · refine go_cS (As := [.int x1]) (rest := []) (st2 := []) (c2 := 1) (s2 := 6) rfl rfl rfl rfl (Ca_S_refuseUnknownSkill hl o_2)  (d_S_unit 1 rfl) cw_S_43 w_261 ⟨by decide, by decide⟩ rfl (Nat.le_of_ble_eq_true rfl) ⟨by decide, by decide⟩ (fun _ => ?_) (fun q => absurd z_3 q)
    refine go_aload_n (d_S_unit 4 rfl) rfl rfl ?_
    refine go_getI (d_S_unit 5 rfl) fl_S_115 rfl rfl ?_
    refine go_bipush (x := (40 : Int32)) (d_S_unit 8 rfl) (by decide) ?_
    rcases br_some h with ⟨c_4, h⟩ | ⟨c_4, h⟩
    · refine go_icmp_lt (tgt := 23) (d_S_unit 10 rfl) (by decide) (fun _ => ?_) (fun q => absurd (of_decide_eq_true c_4) q)
      refine go_aload_n (d_S_unit 23 rfl) rfl rfl ?_
      refine go_getI (d_S_unit 24 rfl) fl_S_115 rfl rfl ?_
      refine go_istore_n (lv' := [(0, .ref (ad (0))), (1, .int x1), (2, .int ((r_1.2.2.2 0 10)))]) (d_S_unit 27 rfl) rfl (by decide) rfl ?_
      refine go_aload_n (d_S_unit 28 rfl) rfl rfl ?_
      refine go_dup (d_S_unit 29 rfl) rfl ?_
      refine go_getI (d_S_unit 30 rfl) fl_S_115 rfl rfl ?_
      refine go_iconst (x := (1 : Int32)) (d_S_unit 33 rfl) (by decide) ?_
      refine go_iadd (d_S_unit 34 rfl) ?_
      obtain ⟨v_5, ev_5, h⟩ := ln_some h
      refine go_putI (x := ((r_1.2.2.2 0 10) + (1 : Int32))) (d_S_unit 35 rfl) fp_S_115 rfl rfl rfl rfl ?_
      rw [← ev_5]
      refine go_aload_n (d_S_unit 38 rfl) rfl rfl ?_
      refine go_getR (d_S_unit 39 rfl) fl_S_32 rfl rfl ?_
      show Go _ _ _ _ _ _ _ _ _ (.ref (ad (15)) :: []) _ _
      refine go_iload_n (d_S_unit 42 rfl) rfl rfl ?_
      obtain ⟨g_6, h⟩ := gd_some h
      obtain ⟨k_7, ek_7, h⟩ := ln_some h
      refine go_aald (c := 15) (d_S_unit 43 rfl) rfl (by decide) g_6 ?_
      rw [← ek_7]
      refine go_iload_n (d_S_unit 44 rfl) rfl rfl ?_
      obtain ⟨g_8, h⟩ := gd_some h
      obtain ⟨v_9, ev_9, h⟩ := ln_some h
      refine go_putI (x := x1) (d_S_unit 45 rfl) fp_S_159 (Nat.eq_of_beq_eq_true g_8) rfl rfl rfl ?_
      rw [← ev_9]
      refine go_iload_n (d_S_unit 48 rfl) rfl rfl ?_
      exact go_iret (d_S_unit 49 rfl) rfl rfl (Option.some.inj h) (by decide) (by decide)
    · refine go_icmp_lt (tgt := 23) (d_S_unit 10 rfl) (by decide) (fun q => absurd q (of_decide_eq_false c_4)) (fun _ => ?_)
      exact go_thr (text := "no room for one more unit") hl xs_80_84_4 (by decide +kernel) rfl rfl (d_S_unit 13 rfl) (d_S_unit 16 rfl) (d_S_unit 17 rfl) (d_S_unit 19 rfl) (d_S_unit 22 rfl) ⟨by decide, Nat.le_of_ble_eq_true rfl, by decide, by decide⟩ (Option.some.inj h) (by decide) (by decide)
  · exact go_cS (As := [.int x1]) (rest := []) (st2 := []) (c2 := 1) (s2 := 6) rfl rfl rfl rfl (Ca_S_refuseUnknownSkill hl o_2)  (d_S_unit 1 rfl) cw_S_43 w_261 ⟨by decide, by decide⟩ rfl (Nat.le_of_ble_eq_true rfl) ⟨by decide, by decide⟩ (fun q => absurd q z_3) (fun q => gx_out q rfl h (by decide) (by decide))
abbrev M_S_go : go_M := (c_S_go, 6, none, RS, [], rmD 1 5)
def f_S_go (x1 : Int32) (x2 : Int32) (x3 : Int32) (v : go_V) : Option go_R := bd (f_S_knownUnit x1 v) (fun r_1 => tr r_1 (bd (f_S_knownIncident x2 r_1.2.2.2) (fun r_4 => tr r_4 (bd (f_S_refuseOutside x3 (0 : Int32) (99999 : Int32) r_4.2.2.2) (fun r_7 => tr r_7 (gd (Nat.beq (go_cls (r_1.2.2.1)) 2) (br (decide ((r_7.2.2.2 (r_1.2.2.1) 1) = 0)) (bd (f_S_refuseClosed r_4.2.2.1 r_7.2.2.2) (fun r_12 => tr r_12 (ln (u2 r_12.2.2.2 (r_1.2.2.1) 1 (1 : Int32)) (fun v_15 => ln (u2 v_15 (r_1.2.2.1) 2 x2) (fun v_16 => ln (u2 v_16 (r_1.2.2.1) 3 x3) (fun v_17 => some (0, 0, 0, v_17))))))) (some (3, 0, 0, r_7.2.2.2)))))))))
set_option maxHeartbeats 4000000 in
set_option maxRecDepth 100000 in
theorem Ca_S_go {l : Launch} {G : go_G} {ad : Nat → Nat} (hl : l.stackTraces = false) {r : go_R} {x1 : Int32} {x2 : Int32} {x3 : Int32} {v : go_V} (h : f_S_go x1 x2 x3 v = some r) : Ca l G y_S_go (.code y_S_go c_S_go 6 none :: go_TT) (rmD 1 5) 0 ad [.ref (ad (0)), .int x1, .int x2, .int x3] v r := by
  unfold f_S_go at h
  refine go_body (own := RS) (by decide) rfl (Nat.le_of_ble_eq_true rfl) ?_
  show Go l G M_S_go go_Ex0 (go_E G ad 0 r 5 30) ad v [(0, .ref (ad (0))), (1, .int x1), (2, .int x2), (3, .int x3)] 0 [] 0 0
  refine go_aload_n (d_S_go 0 rfl) rfl rfl ?_
  refine go_iload_n (d_S_go 1 rfl) rfl rfl ?_
  obtain ⟨r_1, o_2, h⟩ := bd_some h
  rcases tr_some h with ⟨z_3, h⟩ | ⟨z_3, h⟩
  · refine go_cV (As := [.int x1]) (rest := []) (st2 := [.ref (ad (r_1.2.2.1))]) (c2 := 1) (s2 := 6) rfl rfl rfl rfl (Ca_S_knownUnit hl o_2)  (d_S_go 2 rfl) cw_S_162 ⟨w_488, w_17⟩ rfl (by decide) rfl ⟨by decide, by decide⟩ rfl (Nat.le_of_ble_eq_true rfl) ⟨by decide, by decide⟩ (fun _ => ?_) (fun q => absurd z_3 q)
    refine go_astore (lv' := [(0, .ref (ad (0))), (1, .int x1), (2, .int x2), (3, .int x3), (4, .ref (ad (r_1.2.2.1)))]) (d_S_go 5 rfl) (by decide) rfl ?_
    refine go_aload_n (d_S_go 7 rfl) rfl rfl ?_
    refine go_iload_n (d_S_go 8 rfl) rfl rfl ?_
    obtain ⟨r_4, o_5, h⟩ := bd_some h
    rcases tr_some h with ⟨z_6, h⟩ | ⟨z_6, h⟩
    · refine go_cV (As := [.int x2]) (rest := []) (st2 := [.ref (ad (r_4.2.2.1))]) (c2 := 2) (s2 := 12) rfl rfl rfl rfl (Ca_S_knownIncident hl o_5)  (d_S_go 9 rfl) cw_S_107 ⟨w_366, w_4⟩ rfl (by decide) rfl ⟨by decide, by decide⟩ rfl (Nat.le_of_ble_eq_true rfl) ⟨by decide, by decide⟩ (fun _ => ?_) (fun q => absurd z_6 q)
      refine go_astore (lv' := [(0, .ref (ad (0))), (1, .int x1), (2, .int x2), (3, .int x3), (4, .ref (ad (r_1.2.2.1))), (5, .ref (ad (r_4.2.2.1)))]) (d_S_go 12 rfl) (by decide) rfl ?_
      refine go_iload_n (d_S_go 14 rfl) rfl rfl ?_
      refine go_iconst (x := (0 : Int32)) (d_S_go 15 rfl) (by decide) ?_
      refine go_ldc (x := (99999 : Int32)) (d_S_go 16 rfl) w_491 ?_
      obtain ⟨r_7, o_8, h⟩ := bd_some h
      rcases tr_some h with ⟨z_9, h⟩ | ⟨z_9, h⟩
      · refine go_cS (As := [.int x3, .int ((0 : Int32)), .int ((99999 : Int32))]) (rest := []) (st2 := []) (c2 := 3) (s2 := 18) rfl rfl rfl rfl (Ca_S_refuseOutside hl o_8)  (d_S_go 18 rfl) cw_S_46 w_265 ⟨by decide, by decide⟩ rfl (Nat.le_of_ble_eq_true rfl) ⟨by decide, by decide⟩ (fun _ => ?_) (fun q => absurd z_9 q)
        refine go_aload (d_S_go 21 rfl) rfl ?_
        obtain ⟨g_10, h⟩ := gd_some h
        refine go_getI (d_S_go 23 rfl) fl_S_167 (Nat.eq_of_beq_eq_true g_10) rfl ?_
        rcases br_some h with ⟨c_11, h⟩ | ⟨c_11, h⟩
        · refine go_if_eq (tgt := 39) (d_S_go 26 rfl) (by decide) (fun _ => ?_) (fun q => absurd (of_decide_eq_true c_11) q)
          refine go_aload (d_S_go 39 rfl) rfl ?_
          obtain ⟨r_12, o_13, h⟩ := bd_some h
          rcases tr_some h with ⟨z_14, h⟩ | ⟨z_14, h⟩
          · refine go_cS (As := [.ref (ad (r_4.2.2.1))]) (rest := []) (st2 := []) (c2 := 4) (s2 := 24) rfl rfl rfl rfl (Ca_S_refuseClosed hl o_13)  (d_S_go 41 rfl) cw_S_111 w_370 ⟨by decide, by decide⟩ rfl (Nat.le_of_ble_eq_true rfl) ⟨by decide, by decide⟩ (fun _ => ?_) (fun q => absurd z_14 q)
            refine go_aload (d_S_go 44 rfl) rfl ?_
            refine go_iconst (x := (1 : Int32)) (d_S_go 46 rfl) (by decide) ?_
            obtain ⟨v_15, ev_15, h⟩ := ln_some h
            refine go_putI (x := (1 : Int32)) (d_S_go 47 rfl) fp_S_167 (Nat.eq_of_beq_eq_true g_10) rfl rfl rfl ?_
            rw [← ev_15]
            refine go_aload (d_S_go 50 rfl) rfl ?_
            refine go_iload_n (d_S_go 52 rfl) rfl rfl ?_
            obtain ⟨v_16, ev_16, h⟩ := ln_some h
            refine go_putI (x := x2) (d_S_go 53 rfl) fp_S_118 (Nat.eq_of_beq_eq_true g_10) rfl rfl rfl ?_
            rw [← ev_16]
            refine go_aload (d_S_go 56 rfl) rfl ?_
            refine go_iload_n (d_S_go 58 rfl) rfl rfl ?_
            obtain ⟨v_17, ev_17, h⟩ := ln_some h
            refine go_putI (x := x3) (d_S_go 59 rfl) fp_S_172 (Nat.eq_of_beq_eq_true g_10) rfl rfl rfl ?_
            rw [← ev_17]
            exact go_vret (d_S_go 62 rfl) rfl (Option.some.inj h) (by decide) (by decide)
          · exact go_cS (As := [.ref (ad (r_4.2.2.1))]) (rest := []) (st2 := []) (c2 := 4) (s2 := 24) rfl rfl rfl rfl (Ca_S_refuseClosed hl o_13)  (d_S_go 41 rfl) cw_S_111 w_370 ⟨by decide, by decide⟩ rfl (Nat.le_of_ble_eq_true rfl) ⟨by decide, by decide⟩ (fun q => absurd q z_14) (fun q => gx_out q rfl h (by decide) (by decide))
        · refine go_if_eq (tgt := 39) (d_S_go 26 rfl) (by decide) (fun q => absurd q (of_decide_eq_false c_11)) (fun _ => ?_)
          exact go_thr (text := "the unit is not free") hl xs_54_58_3 (by decide +kernel) rfl rfl (d_S_go 29 rfl) (d_S_go 32 rfl) (d_S_go 33 rfl) (d_S_go 35 rfl) (d_S_go 38 rfl) ⟨by decide, Nat.le_of_ble_eq_true rfl, by decide, by decide⟩ (Option.some.inj h) (by decide) (by decide)
      · exact go_cS (As := [.int x3, .int ((0 : Int32)), .int ((99999 : Int32))]) (rest := []) (st2 := []) (c2 := 3) (s2 := 18) rfl rfl rfl rfl (Ca_S_refuseOutside hl o_8)  (d_S_go 18 rfl) cw_S_46 w_265 ⟨by decide, by decide⟩ rfl (Nat.le_of_ble_eq_true rfl) ⟨by decide, by decide⟩ (fun q => absurd q z_9) (fun q => gx_out q rfl h (by decide) (by decide))
    · exact go_cV (As := [.int x2]) (rest := []) (st2 := [.ref (ad (r_4.2.2.1))]) (c2 := 2) (s2 := 12) rfl rfl rfl rfl (Ca_S_knownIncident hl o_5)  (d_S_go 9 rfl) cw_S_107 ⟨w_366, w_4⟩ rfl (by decide) rfl ⟨by decide, by decide⟩ rfl (Nat.le_of_ble_eq_true rfl) ⟨by decide, by decide⟩ (fun q => absurd q z_6) (fun q => gx_out q rfl h (by decide) (by decide))
  · exact go_cV (As := [.int x1]) (rest := []) (st2 := [.ref (ad (r_1.2.2.1))]) (c2 := 1) (s2 := 6) rfl rfl rfl rfl (Ca_S_knownUnit hl o_2)  (d_S_go 2 rfl) cw_S_162 ⟨w_488, w_17⟩ rfl (by decide) rfl ⟨by decide, by decide⟩ rfl (Nat.le_of_ble_eq_true rfl) ⟨by decide, by decide⟩ (fun q => absurd q z_3) (fun q => gx_out q rfl h (by decide) (by decide))
abbrev M_S_arrive : go_M := (c_S_arrive, 3, none, RS, [], rmD 1 2)
def f_S_arrive (x1 : Int32) (v : go_V) : Option go_R := bd (f_S_knownUnit x1 v) (fun r_1 => tr r_1 (gd (Nat.beq (go_cls (r_1.2.2.1)) 2) (br (decide ((r_1.2.2.2 (r_1.2.2.1) 1) = (1 : Int32))) (ln (u2 r_1.2.2.2 (r_1.2.2.1) 1 (2 : Int32)) (fun v_6 => some (0, 0, 0, v_6))) (some (3, 0, 0, r_1.2.2.2)))))
set_option maxHeartbeats 4000000 in
set_option maxRecDepth 100000 in
theorem Ca_S_arrive {l : Launch} {G : go_G} {ad : Nat → Nat} (hl : l.stackTraces = false) {r : go_R} {x1 : Int32} {v : go_V} (h : f_S_arrive x1 v = some r) : Ca l G y_S_arrive (.code y_S_arrive c_S_arrive 3 none :: go_TT) (rmD 1 2) 0 ad [.ref (ad (0)), .int x1] v r := by
  unfold f_S_arrive at h
  refine go_body (own := RS) (by decide) rfl (Nat.le_of_ble_eq_true rfl) ?_
  show Go l G M_S_arrive go_Ex0 (go_E G ad 0 r 2 12) ad v [(0, .ref (ad (0))), (1, .int x1)] 0 [] 0 0
  refine go_aload_n (d_S_arrive 0 rfl) rfl rfl ?_
  refine go_iload_n (d_S_arrive 1 rfl) rfl rfl ?_
  obtain ⟨r_1, o_2, h⟩ := bd_some h
  rcases tr_some h with ⟨z_3, h⟩ | ⟨z_3, h⟩
  · refine go_cV (As := [.int x1]) (rest := []) (st2 := [.ref (ad (r_1.2.2.1))]) (c2 := 1) (s2 := 6) rfl rfl rfl rfl (Ca_S_knownUnit hl o_2)  (d_S_arrive 2 rfl) cw_S_162 ⟨w_488, w_17⟩ rfl (by decide) rfl ⟨by decide, by decide⟩ rfl (Nat.le_of_ble_eq_true rfl) ⟨by decide, by decide⟩ (fun _ => ?_) (fun q => absurd z_3 q)
    refine go_astore_n (lv' := [(0, .ref (ad (0))), (1, .int x1), (2, .ref (ad (r_1.2.2.1)))]) (d_S_arrive 5 rfl) rfl (by decide) rfl ?_
    refine go_aload_n (d_S_arrive 6 rfl) rfl rfl ?_
    obtain ⟨g_4, h⟩ := gd_some h
    refine go_getI (d_S_arrive 7 rfl) fl_S_167 (Nat.eq_of_beq_eq_true g_4) rfl ?_
    refine go_iconst (x := (1 : Int32)) (d_S_arrive 10 rfl) (by decide) ?_
    rcases br_some h with ⟨c_5, h⟩ | ⟨c_5, h⟩
    · refine go_icmp_eq (tgt := 24) (d_S_arrive 11 rfl) (by decide) (fun _ => ?_) (fun q => absurd (of_decide_eq_true c_5) q)
      refine go_aload_n (d_S_arrive 24 rfl) rfl rfl ?_
      refine go_iconst (x := (2 : Int32)) (d_S_arrive 25 rfl) (by decide) ?_
      obtain ⟨v_6, ev_6, h⟩ := ln_some h
      refine go_putI (x := (2 : Int32)) (d_S_arrive 26 rfl) fp_S_167 (Nat.eq_of_beq_eq_true g_4) rfl rfl rfl ?_
      rw [← ev_6]
      exact go_vret (d_S_arrive 29 rfl) rfl (Option.some.inj h) (by decide) (by decide)
    · refine go_icmp_eq (tgt := 24) (d_S_arrive 11 rfl) (by decide) (fun q => absurd q (of_decide_eq_false c_5)) (fun _ => ?_)
      exact go_thr (text := "the unit is not under way") hl xs_54_58_3 (by decide +kernel) rfl rfl (d_S_arrive 14 rfl) (d_S_arrive 17 rfl) (d_S_arrive 18 rfl) (d_S_arrive 20 rfl) (d_S_arrive 23 rfl) ⟨by decide, Nat.le_of_ble_eq_true rfl, by decide, by decide⟩ (Option.some.inj h) (by decide) (by decide)
  · exact go_cV (As := [.int x1]) (rest := []) (st2 := [.ref (ad (r_1.2.2.1))]) (c2 := 1) (s2 := 6) rfl rfl rfl rfl (Ca_S_knownUnit hl o_2)  (d_S_arrive 2 rfl) cw_S_162 ⟨w_488, w_17⟩ rfl (by decide) rfl ⟨by decide, by decide⟩ rfl (Nat.le_of_ble_eq_true rfl) ⟨by decide, by decide⟩ (fun q => absurd q z_3) (fun q => gx_out q rfl h (by decide) (by decide))
abbrev M_S_needed : go_M := (c_S_needed, 4, (some .int), RS, [], rmD 2 3)
def f_S_needed (x1 : Int32) (x2 : Int32) (v : go_V) : Option go_R := bd (f_S_knownIncident x1 v) (fun r_1 => tr r_1 (bd (f_S_refuseUnknownSkill x2 r_1.2.2.2) (fun r_4 => tr r_4 (bd (f_S_refuseClosed r_1.2.2.1 r_4.2.2.2) (fun r_7 => tr r_7 (gd (Nat.beq (go_cls (r_1.2.2.1)) 0) (gd (go_in (r_7.2.2.2 (r_1.2.2.1) 1) 10) (ln (go_elt 1 (r_7.2.2.2 (r_1.2.2.1) 1).toNatClampNeg) (fun k_12 => gd (Nat.beq (go_cls (k_12)) 10) (gd (go_in x2 (go_len (k_12))) (bd (f_S_unitsFor x1 x2 r_7.2.2.2) (fun r_15 => nt r_15 (some (0, ((r_7.2.2.2 (k_12) x2.toNatClampNeg) - r_15.2.1), 0, r_15.2.2.2))))))))))))))
set_option maxHeartbeats 4000000 in
set_option maxRecDepth 100000 in
theorem Ca_S_needed {l : Launch} {G : go_G} {ad : Nat → Nat} (hl : l.stackTraces = false) {r : go_R} {x1 : Int32} {x2 : Int32} {v : go_V} (h : f_S_needed x1 x2 v = some r) : Ca l G y_S_needed (.code y_S_needed c_S_needed 4 (some .int) :: go_TT) (rmD 2 3) 1 ad [.ref (ad (0)), .int x1, .int x2] v r := by
  unfold f_S_needed at h
  refine go_body (own := RS) (by decide) rfl (Nat.le_of_ble_eq_true rfl) ?_
  show Go l G M_S_needed go_Ex0 (go_E G ad 1 r 3 18) ad v [(0, .ref (ad (0))), (1, .int x1), (2, .int x2)] 0 [] 0 0
  refine go_aload_n (d_S_needed 0 rfl) rfl rfl ?_
  refine go_iload_n (d_S_needed 1 rfl) rfl rfl ?_
  obtain ⟨r_1, o_2, h⟩ := bd_some h
  rcases tr_some h with ⟨z_3, h⟩ | ⟨z_3, h⟩
  · refine go_cV (As := [.int x1]) (rest := []) (st2 := [.ref (ad (r_1.2.2.1))]) (c2 := 1) (s2 := 6) rfl rfl rfl rfl (Ca_S_knownIncident hl o_2)  (d_S_needed 2 rfl) cw_S_107 ⟨w_366, w_4⟩ rfl (by decide) rfl ⟨by decide, by decide⟩ rfl (Nat.le_of_ble_eq_true rfl) ⟨by decide, by decide⟩ (fun _ => ?_) (fun q => absurd z_3 q)
    refine go_astore_n (lv' := [(0, .ref (ad (0))), (1, .int x1), (2, .int x2), (3, .ref (ad (r_1.2.2.1)))]) (d_S_needed 5 rfl) rfl (by decide) rfl ?_
    refine go_iload_n (d_S_needed 6 rfl) rfl rfl ?_
    obtain ⟨r_4, o_5, h⟩ := bd_some h
    rcases tr_some h with ⟨z_6, h⟩ | ⟨z_6, h⟩
    · refine go_cS (As := [.int x2]) (rest := []) (st2 := []) (c2 := 2) (s2 := 12) rfl rfl rfl rfl (Ca_S_refuseUnknownSkill hl o_5)  (d_S_needed 7 rfl) cw_S_43 w_261 ⟨by decide, by decide⟩ rfl (Nat.le_of_ble_eq_true rfl) ⟨by decide, by decide⟩ (fun _ => ?_) (fun q => absurd z_6 q)
      refine go_aload_n (d_S_needed 10 rfl) rfl rfl ?_
      obtain ⟨r_7, o_8, h⟩ := bd_some h
      rcases tr_some h with ⟨z_9, h⟩ | ⟨z_9, h⟩
      · refine go_cS (As := [.ref (ad (r_1.2.2.1))]) (rest := []) (st2 := []) (c2 := 3) (s2 := 18) rfl rfl rfl rfl (Ca_S_refuseClosed hl o_8)  (d_S_needed 11 rfl) cw_S_111 w_370 ⟨by decide, by decide⟩ rfl (Nat.le_of_ble_eq_true rfl) ⟨by decide, by decide⟩ (fun _ => ?_) (fun q => absurd z_9 q)
        refine go_aload_n (d_S_needed 14 rfl) rfl rfl ?_
        refine go_getR (d_S_needed 15 rfl) fl_S_11 rfl rfl ?_
        show Go _ _ _ _ _ _ _ _ _ (.ref (ad (1)) :: []) _ _
        refine go_aload_n (d_S_needed 18 rfl) rfl rfl ?_
        obtain ⟨g_10, h⟩ := gd_some h
        refine go_getI (d_S_needed 19 rfl) fl_S_142 (Nat.eq_of_beq_eq_true g_10) rfl ?_
        obtain ⟨g_11, h⟩ := gd_some h
        obtain ⟨k_12, ek_12, h⟩ := ln_some h
        refine go_aald (c := 16) (d_S_needed 22 rfl) rfl (by decide) g_11 ?_
        rw [← ek_12]
        refine go_iload_n (d_S_needed 23 rfl) rfl rfl ?_
        obtain ⟨g_13, h⟩ := gd_some h
        obtain ⟨g_14, h⟩ := gd_some h
        refine go_iald (d_S_needed 24 rfl) (Nat.eq_of_beq_eq_true g_13) g_14 ?_
        refine go_aload_n (d_S_needed 25 rfl) rfl rfl ?_
        refine go_iload_n (d_S_needed 26 rfl) rfl rfl ?_
        refine go_iload_n (d_S_needed 27 rfl) rfl rfl ?_
        obtain ⟨r_15, o_16, h⟩ := bd_some h
        obtain ⟨z_17, h⟩ := nt_some h
        refine go_cV (As := [.int x1, .int x2]) (rest := [.int ((r_7.2.2.2 (k_12) x2.toNatClampNeg))]) (st2 := [.int (r_15.2.1), .int ((r_7.2.2.2 (k_12) x2.toNatClampNeg))]) (c2 := 3) (s2 := 18) rfl rfl rfl rfl (Ca_S_unitsFor hl o_16)  (d_S_needed 28 rfl) cw_S_177 ⟨w_454, w_13⟩ rfl (by decide) rfl ⟨by decide, by decide⟩ rfl (Nat.le_of_ble_eq_true rfl) ⟨by decide, by decide⟩ (fun _ => ?_) (fun q => absurd z_17 q)
        refine go_isub (d_S_needed 31 rfl) ?_
        exact go_iret (d_S_needed 32 rfl) rfl rfl (Option.some.inj h) (by decide) (by decide)
      · exact go_cS (As := [.ref (ad (r_1.2.2.1))]) (rest := []) (st2 := []) (c2 := 3) (s2 := 18) rfl rfl rfl rfl (Ca_S_refuseClosed hl o_8)  (d_S_needed 11 rfl) cw_S_111 w_370 ⟨by decide, by decide⟩ rfl (Nat.le_of_ble_eq_true rfl) ⟨by decide, by decide⟩ (fun q => absurd q z_9) (fun q => gx_out q rfl h (by decide) (by decide))
    · exact go_cS (As := [.int x2]) (rest := []) (st2 := []) (c2 := 2) (s2 := 12) rfl rfl rfl rfl (Ca_S_refuseUnknownSkill hl o_5)  (d_S_needed 7 rfl) cw_S_43 w_261 ⟨by decide, by decide⟩ rfl (Nat.le_of_ble_eq_true rfl) ⟨by decide, by decide⟩ (fun q => absurd q z_6) (fun q => gx_out q rfl h (by decide) (by decide))
  · exact go_cV (As := [.int x1]) (rest := []) (st2 := [.ref (ad (r_1.2.2.1))]) (c2 := 1) (s2 := 6) rfl rfl rfl rfl (Ca_S_knownIncident hl o_2)  (d_S_needed 2 rfl) cw_S_107 ⟨w_366, w_4⟩ rfl (by decide) rfl ⟨by decide, by decide⟩ rfl (Nat.le_of_ble_eq_true rfl) ⟨by decide, by decide⟩ (fun q => absurd q z_3) (fun q => gx_out q rfl h (by decide) (by decide))
abbrev M_S_incident : go_M := (c_S_incident, 4, (some .int), RS, [], rmD 1 2)
def f_S_incident (x1 : Int32) (x2 : Int32) (v : go_V) : Option go_R := bd (f_S_knownIncident x1 v) (fun r_1 => tr r_1 (br (go_in x2 7) (br (Nat.beq x2.toNatClampNeg 0) (gd (Nat.beq (go_cls (r_1.2.2.1)) 0) (some (0, (r_1.2.2.2 (r_1.2.2.1) 1), 0, r_1.2.2.2))) (br (Nat.beq x2.toNatClampNeg 1) (gd (Nat.beq (go_cls (r_1.2.2.1)) 0) (br (decide ((r_1.2.2.2 (r_1.2.2.1) 0) = 0)) (some (0, (0 : Int32), 0, r_1.2.2.2)) (some (0, (1 : Int32), 0, r_1.2.2.2)))) (br (Nat.beq x2.toNatClampNeg 2) (gd (Nat.beq (go_cls (r_1.2.2.1)) 0) (some (0, (r_1.2.2.2 (r_1.2.2.1) 2), 0, r_1.2.2.2))) (br (Nat.beq x2.toNatClampNeg 3) (gd (Nat.beq (go_cls (r_1.2.2.1)) 0) (some (0, (r_1.2.2.2 (r_1.2.2.1) 3), 0, r_1.2.2.2))) (br (Nat.beq x2.toNatClampNeg 4) (gd (Nat.beq (go_cls (r_1.2.2.1)) 0) (some (0, (r_1.2.2.2 (r_1.2.2.1) 4), 0, r_1.2.2.2))) (br (Nat.beq x2.toNatClampNeg 5) (gd (Nat.beq (go_cls (r_1.2.2.1)) 0) (some (0, (r_1.2.2.2 (r_1.2.2.1) 5), 0, r_1.2.2.2))) (br (Nat.beq x2.toNatClampNeg 6) (gd (Nat.beq (go_cls (r_1.2.2.1)) 0) (some (0, (r_1.2.2.2 (r_1.2.2.1) 6), 0, r_1.2.2.2))) (none)))))))) (some (1, 0, 0, r_1.2.2.2))))
set_option maxHeartbeats 4000000 in
set_option maxRecDepth 100000 in
theorem Ca_S_incident {l : Launch} {G : go_G} {ad : Nat → Nat} (hl : l.stackTraces = false) {r : go_R} {x1 : Int32} {x2 : Int32} {v : go_V} (h : f_S_incident x1 x2 v = some r) : Ca l G y_S_incident (.code y_S_incident c_S_incident 4 (some .int) :: go_TT) (rmD 1 2) 1 ad [.ref (ad (0)), .int x1, .int x2] v r := by
  unfold f_S_incident at h
  refine go_body (own := RS) (by decide) rfl (Nat.le_of_ble_eq_true rfl) ?_
  show Go l G M_S_incident go_Ex0 (go_E G ad 1 r 2 12) ad v [(0, .ref (ad (0))), (1, .int x1), (2, .int x2)] 0 [] 0 0
  refine go_aload_n (d_S_incident 0 rfl) rfl rfl ?_
  refine go_iload_n (d_S_incident 1 rfl) rfl rfl ?_
  obtain ⟨r_1, o_2, h⟩ := bd_some h
  rcases tr_some h with ⟨z_3, h⟩ | ⟨z_3, h⟩
  · refine go_cV (As := [.int x1]) (rest := []) (st2 := [.ref (ad (r_1.2.2.1))]) (c2 := 1) (s2 := 6) rfl rfl rfl rfl (Ca_S_knownIncident hl o_2)  (d_S_incident 2 rfl) cw_S_107 ⟨w_366, w_4⟩ rfl (by decide) rfl ⟨by decide, by decide⟩ rfl (Nat.le_of_ble_eq_true rfl) ⟨by decide, by decide⟩ (fun _ => ?_) (fun q => absurd z_3 q)
    refine go_astore_n (lv' := [(0, .ref (ad (0))), (1, .int x1), (2, .int x2), (3, .ref (ad (r_1.2.2.1)))]) (d_S_incident 5 rfl) rfl (by decide) rfl ?_
    refine go_iload_n (d_S_incident 6 rfl) rfl rfl ?_
    rcases br_some h with ⟨c_4, h⟩ | ⟨c_4, h⟩
    · rcases br_some h with ⟨c_5, h⟩ | ⟨c_5, h⟩
      · refine go_tsw (tgt := 48) (n := 6) (d_S_incident 7 rfl) c_4 rfl c_5 rfl (by decide) ?_
        refine go_aload_n (d_S_incident 48 rfl) rfl rfl ?_
        obtain ⟨g_6, h⟩ := gd_some h
        refine go_getI (d_S_incident 49 rfl) fl_S_142 (Nat.eq_of_beq_eq_true g_6) rfl ?_
        exact go_iret (d_S_incident 52 rfl) rfl rfl (Option.some.inj h) (by decide) (by decide)
      rcases br_some h with ⟨c_7, h⟩ | ⟨c_7, h⟩
      · refine go_tsw (tgt := 53) (n := 6) (d_S_incident 7 rfl) c_4 rfl c_7 rfl (by decide) ?_
        refine go_aload_n (d_S_incident 53 rfl) rfl rfl ?_
        obtain ⟨g_8, h⟩ := gd_some h
        refine go_getI (d_S_incident 54 rfl) fl_S_97 (Nat.eq_of_beq_eq_true g_8) rfl ?_
        rcases br_some h with ⟨c_9, h⟩ | ⟨c_9, h⟩
        · refine go_if_eq (tgt := 64) (d_S_incident 57 rfl) (by decide) (fun _ => ?_) (fun q => absurd (of_decide_eq_true c_9) q)
          refine go_iconst (x := (0 : Int32)) (d_S_incident 64 rfl) (by decide) ?_
          exact go_iret (d_S_incident 65 rfl) rfl rfl (Option.some.inj h) (by decide) (by decide)
        · refine go_if_eq (tgt := 64) (d_S_incident 57 rfl) (by decide) (fun q => absurd q (of_decide_eq_false c_9)) (fun _ => ?_)
          refine go_iconst (x := (1 : Int32)) (d_S_incident 60 rfl) (by decide) ?_
          refine go_goto (tgt := 65) (d_S_incident 61 rfl) (by decide) ?_
          exact go_iret (d_S_incident 65 rfl) rfl rfl (Option.some.inj h) (by decide) (by decide)
      rcases br_some h with ⟨c_10, h⟩ | ⟨c_10, h⟩
      · refine go_tsw (tgt := 66) (n := 6) (d_S_incident 7 rfl) c_4 rfl c_10 rfl (by decide) ?_
        refine go_aload_n (d_S_incident 66 rfl) rfl rfl ?_
        obtain ⟨g_11, h⟩ := gd_some h
        refine go_getI (d_S_incident 67 rfl) fl_S_139 (Nat.eq_of_beq_eq_true g_11) rfl ?_
        exact go_iret (d_S_incident 70 rfl) rfl rfl (Option.some.inj h) (by decide) (by decide)
      rcases br_some h with ⟨c_12, h⟩ | ⟨c_12, h⟩
      · refine go_tsw (tgt := 71) (n := 6) (d_S_incident 7 rfl) c_4 rfl c_12 rfl (by decide) ?_
        refine go_aload_n (d_S_incident 71 rfl) rfl rfl ?_
        obtain ⟨g_13, h⟩ := gd_some h
        refine go_getI (d_S_incident 72 rfl) fl_S_104 (Nat.eq_of_beq_eq_true g_13) rfl ?_
        exact go_iret (d_S_incident 75 rfl) rfl rfl (Option.some.inj h) (by decide) (by decide)
      rcases br_some h with ⟨c_14, h⟩ | ⟨c_14, h⟩
      · refine go_tsw (tgt := 76) (n := 6) (d_S_incident 7 rfl) c_4 rfl c_14 rfl (by decide) ?_
        refine go_aload_n (d_S_incident 76 rfl) rfl rfl ?_
        obtain ⟨g_15, h⟩ := gd_some h
        refine go_getI (d_S_incident 77 rfl) fl_S_181 (Nat.eq_of_beq_eq_true g_15) rfl ?_
        exact go_iret (d_S_incident 80 rfl) rfl rfl (Option.some.inj h) (by decide) (by decide)
      rcases br_some h with ⟨c_16, h⟩ | ⟨c_16, h⟩
      · refine go_tsw (tgt := 81) (n := 6) (d_S_incident 7 rfl) c_4 rfl c_16 rfl (by decide) ?_
        refine go_aload_n (d_S_incident 81 rfl) rfl rfl ?_
        obtain ⟨g_17, h⟩ := gd_some h
        refine go_getI (d_S_incident 82 rfl) fl_S_184 (Nat.eq_of_beq_eq_true g_17) rfl ?_
        exact go_iret (d_S_incident 85 rfl) rfl rfl (Option.some.inj h) (by decide) (by decide)
      rcases br_some h with ⟨c_18, h⟩ | ⟨c_18, h⟩
      · refine go_tsw (tgt := 86) (n := 6) (d_S_incident 7 rfl) c_4 rfl c_18 rfl (by decide) ?_
        refine go_aload_n (d_S_incident 86 rfl) rfl rfl ?_
        obtain ⟨g_19, h⟩ := gd_some h
        refine go_getI (d_S_incident 87 rfl) fl_S_147 (Nat.eq_of_beq_eq_true g_19) rfl ?_
        exact go_iret (d_S_incident 90 rfl) rfl rfl (Option.some.inj h) (by decide) (by decide)
      cases h
    · refine go_tswO (tgt := 91) (n := 6) (d_S_incident 7 rfl) c_4 rfl (by decide) ?_
      exact go_thr (text := "no such thing is told of an incident") hl xs_65_69_1 (by decide +kernel) rfl rfl (d_S_incident 91 rfl) (d_S_incident 94 rfl) (d_S_incident 95 rfl) (d_S_incident 97 rfl) (d_S_incident 100 rfl) ⟨by decide, Nat.le_of_ble_eq_true rfl, by decide, by decide⟩ (Option.some.inj h) (by decide) (by decide)
  · exact go_cV (As := [.int x1]) (rest := []) (st2 := [.ref (ad (r_1.2.2.1))]) (c2 := 1) (s2 := 6) rfl rfl rfl rfl (Ca_S_knownIncident hl o_2)  (d_S_incident 2 rfl) cw_S_107 ⟨w_366, w_4⟩ rfl (by decide) rfl ⟨by decide, by decide⟩ rfl (Nat.le_of_ble_eq_true rfl) ⟨by decide, by decide⟩ (fun q => absurd q z_3) (fun q => gx_out q rfl h (by decide) (by decide))
abbrev M_S_unitAt : go_M := (c_S_unitAt, 4, (some .int), RS, [], rmD 1 2)
def f_S_unitAt (x1 : Int32) (x2 : Int32) (v : go_V) : Option go_R := bd (f_S_knownUnit x1 v) (fun r_1 => tr r_1 (br (go_in x2 3) (br (Nat.beq x2.toNatClampNeg 0) (gd (Nat.beq (go_cls (r_1.2.2.1)) 2) (some (0, (r_1.2.2.2 (r_1.2.2.1) 1), 0, r_1.2.2.2))) (br (Nat.beq x2.toNatClampNeg 1) (gd (Nat.beq (go_cls (r_1.2.2.1)) 2) (some (0, (r_1.2.2.2 (r_1.2.2.1) 2), 0, r_1.2.2.2))) (br (Nat.beq x2.toNatClampNeg 2) (gd (Nat.beq (go_cls (r_1.2.2.1)) 2) (some (0, (r_1.2.2.2 (r_1.2.2.1) 3), 0, r_1.2.2.2))) (none)))) (some (1, 0, 0, r_1.2.2.2))))
set_option maxHeartbeats 4000000 in
set_option maxRecDepth 100000 in
theorem Ca_S_unitAt {l : Launch} {G : go_G} {ad : Nat → Nat} (hl : l.stackTraces = false) {r : go_R} {x1 : Int32} {x2 : Int32} {v : go_V} (h : f_S_unitAt x1 x2 v = some r) : Ca l G y_S_unitAt (.code y_S_unitAt c_S_unitAt 4 (some .int) :: go_TT) (rmD 1 2) 1 ad [.ref (ad (0)), .int x1, .int x2] v r := by
  unfold f_S_unitAt at h
  refine go_body (own := RS) (by decide) rfl (Nat.le_of_ble_eq_true rfl) ?_
  show Go l G M_S_unitAt go_Ex0 (go_E G ad 1 r 2 12) ad v [(0, .ref (ad (0))), (1, .int x1), (2, .int x2)] 0 [] 0 0
  refine go_aload_n (d_S_unitAt 0 rfl) rfl rfl ?_
  refine go_iload_n (d_S_unitAt 1 rfl) rfl rfl ?_
  obtain ⟨r_1, o_2, h⟩ := bd_some h
  rcases tr_some h with ⟨z_3, h⟩ | ⟨z_3, h⟩
  · refine go_cV (As := [.int x1]) (rest := []) (st2 := [.ref (ad (r_1.2.2.1))]) (c2 := 1) (s2 := 6) rfl rfl rfl rfl (Ca_S_knownUnit hl o_2)  (d_S_unitAt 2 rfl) cw_S_162 ⟨w_488, w_17⟩ rfl (by decide) rfl ⟨by decide, by decide⟩ rfl (Nat.le_of_ble_eq_true rfl) ⟨by decide, by decide⟩ (fun _ => ?_) (fun q => absurd z_3 q)
    refine go_astore_n (lv' := [(0, .ref (ad (0))), (1, .int x1), (2, .int x2), (3, .ref (ad (r_1.2.2.1)))]) (d_S_unitAt 5 rfl) rfl (by decide) rfl ?_
    refine go_iload_n (d_S_unitAt 6 rfl) rfl rfl ?_
    rcases br_some h with ⟨c_4, h⟩ | ⟨c_4, h⟩
    · rcases br_some h with ⟨c_5, h⟩ | ⟨c_5, h⟩
      · refine go_tsw (tgt := 32) (n := 2) (d_S_unitAt 7 rfl) c_4 rfl c_5 rfl (by decide) ?_
        refine go_aload_n (d_S_unitAt 32 rfl) rfl rfl ?_
        obtain ⟨g_6, h⟩ := gd_some h
        refine go_getI (d_S_unitAt 33 rfl) fl_S_167 (Nat.eq_of_beq_eq_true g_6) rfl ?_
        exact go_iret (d_S_unitAt 36 rfl) rfl rfl (Option.some.inj h) (by decide) (by decide)
      rcases br_some h with ⟨c_7, h⟩ | ⟨c_7, h⟩
      · refine go_tsw (tgt := 37) (n := 2) (d_S_unitAt 7 rfl) c_4 rfl c_7 rfl (by decide) ?_
        refine go_aload_n (d_S_unitAt 37 rfl) rfl rfl ?_
        obtain ⟨g_8, h⟩ := gd_some h
        refine go_getI (d_S_unitAt 38 rfl) fl_S_118 (Nat.eq_of_beq_eq_true g_8) rfl ?_
        exact go_iret (d_S_unitAt 41 rfl) rfl rfl (Option.some.inj h) (by decide) (by decide)
      rcases br_some h with ⟨c_9, h⟩ | ⟨c_9, h⟩
      · refine go_tsw (tgt := 42) (n := 2) (d_S_unitAt 7 rfl) c_4 rfl c_9 rfl (by decide) ?_
        refine go_aload_n (d_S_unitAt 42 rfl) rfl rfl ?_
        obtain ⟨g_10, h⟩ := gd_some h
        refine go_getI (d_S_unitAt 43 rfl) fl_S_172 (Nat.eq_of_beq_eq_true g_10) rfl ?_
        exact go_iret (d_S_unitAt 46 rfl) rfl rfl (Option.some.inj h) (by decide) (by decide)
      cases h
    · refine go_tswO (tgt := 47) (n := 2) (d_S_unitAt 7 rfl) c_4 rfl (by decide) ?_
      exact go_thr (text := "no such thing is told of a unit") hl xs_65_69_1 (by decide +kernel) rfl rfl (d_S_unitAt 47 rfl) (d_S_unitAt 50 rfl) (d_S_unitAt 51 rfl) (d_S_unitAt 53 rfl) (d_S_unitAt 56 rfl) ⟨by decide, Nat.le_of_ble_eq_true rfl, by decide, by decide⟩ (Option.some.inj h) (by decide) (by decide)
  · exact go_cV (As := [.int x1]) (rest := []) (st2 := [.ref (ad (r_1.2.2.1))]) (c2 := 1) (s2 := 6) rfl rfl rfl rfl (Ca_S_knownUnit hl o_2)  (d_S_unitAt 2 rfl) cw_S_162 ⟨w_488, w_17⟩ rfl (by decide) rfl ⟨by decide, by decide⟩ rfl (Nat.le_of_ble_eq_true rfl) ⟨by decide, by decide⟩ (fun q => absurd q z_3) (fun q => gx_out q rfl h (by decide) (by decide))
abbrev M_S_acted : go_M := (c_S_acted, 2, (some .int), RS, [], rmD 0 1)
def f_S_acted_12  (x1 : Int32) (v : go_V) : Option go_R := some (1, 0, 0, v)
set_option maxHeartbeats 4000000 in
set_option maxRecDepth 100000 in
theorem b_S_acted_12 {l : Launch} {G : go_G} {ad : Nat → Nat} (hl : l.stackTraces = false) {r : go_R}  (x1 : Int32) (v : go_V) (h : f_S_acted_12  x1 v = some r) : Go l G M_S_acted go_Ex0 (go_E G ad 1 r 1 6) ad v [(0, .ref (ad (0))), (1, .int x1)] 12 [] 0 0 := by
  unfold f_S_acted_12 at h
  exact go_thr (text := "no such trigger") hl xs_65_69_1 (by decide +kernel) rfl rfl (d_S_acted 12 rfl) (d_S_acted 15 rfl) (d_S_acted 16 rfl) (d_S_acted 18 rfl) (d_S_acted 21 rfl) ⟨by decide, Nat.le_of_ble_eq_true rfl, by decide, by decide⟩ (Option.some.inj h) (by decide) (by decide)
def f_S_acted (x1 : Int32) (v : go_V) : Option go_R := br (decide (x1 < 0)) (f_S_acted_12  (x1) (v)) (br (decide (x1 < (v 0 4))) (gd (go_in x1 20) (ln (go_elt 12 x1.toNatClampNeg) (fun k_4 => gd (Nat.beq (go_cls (k_4)) 1) (some (0, (v (k_4) 4), 0, v))))) (f_S_acted_12  (x1) (v)))
set_option maxHeartbeats 4000000 in
set_option maxRecDepth 100000 in
theorem Ca_S_acted {l : Launch} {G : go_G} {ad : Nat → Nat} (hl : l.stackTraces = false) {r : go_R} {x1 : Int32} {v : go_V} (h : f_S_acted x1 v = some r) : Ca l G y_S_acted (.code y_S_acted c_S_acted 2 (some .int) :: go_TT) (rmD 0 1) 1 ad [.ref (ad (0)), .int x1] v r := by
  unfold f_S_acted at h
  refine go_body (own := RS) (by decide) rfl (Nat.le_of_ble_eq_true rfl) ?_
  show Go l G M_S_acted go_Ex0 (go_E G ad 1 r 1 6) ad v [(0, .ref (ad (0))), (1, .int x1)] 0 [] 0 0
  refine go_iload_n (d_S_acted 0 rfl) rfl rfl ?_
  rcases br_some h with ⟨c_1, h⟩ | ⟨c_1, h⟩
  · refine go_if_lt (tgt := 12) (d_S_acted 1 rfl) (by decide) (fun _ => ?_) (fun q => absurd (of_decide_eq_true c_1) q)
    exact b_S_acted_12 hl  (x1) (v) h
  · refine go_if_lt (tgt := 12) (d_S_acted 1 rfl) (by decide) (fun q => absurd q (of_decide_eq_false c_1)) (fun _ => ?_)
    refine go_iload_n (d_S_acted 4 rfl) rfl rfl ?_
    refine go_aload_n (d_S_acted 5 rfl) rfl rfl ?_
    refine go_getI (d_S_acted 6 rfl) fl_S_77 rfl rfl ?_
    rcases br_some h with ⟨c_2, h⟩ | ⟨c_2, h⟩
    · refine go_icmp_lt (tgt := 22) (d_S_acted 9 rfl) (by decide) (fun _ => ?_) (fun q => absurd (of_decide_eq_true c_2) q)
      refine go_aload_n (d_S_acted 22 rfl) rfl rfl ?_
      refine go_getR (d_S_acted 23 rfl) fl_S_16 rfl rfl ?_
      show Go _ _ _ _ _ _ _ _ _ (.ref (ad (12)) :: []) _ _
      refine go_iload_n (d_S_acted 26 rfl) rfl rfl ?_
      obtain ⟨g_3, h⟩ := gd_some h
      obtain ⟨k_4, ek_4, h⟩ := ln_some h
      refine go_aald (c := 13) (d_S_acted 27 rfl) rfl (by decide) g_3 ?_
      rw [← ek_4]
      obtain ⟨g_5, h⟩ := gd_some h
      refine go_getI (d_S_acted 28 rfl) fl_S_193 (Nat.eq_of_beq_eq_true g_5) rfl ?_
      exact go_iret (d_S_acted 31 rfl) rfl rfl (Option.some.inj h) (by decide) (by decide)
    · refine go_icmp_lt (tgt := 22) (d_S_acted 9 rfl) (by decide) (fun q => absurd q (of_decide_eq_false c_2)) (fun _ => ?_)
      exact b_S_acted_12 hl  (x1) (v) h
abbrev M_S_count : go_M := (c_S_count, 2, (some .int), RS, [], rmD 0 1)
def f_S_count (x1 : Int32) (v : go_V) : Option go_R := br (go_in x1 4) (br (Nat.beq x1.toNatClampNeg 0) (some (0, (v 0 2), 0, v)) (br (Nat.beq x1.toNatClampNeg 1) (some (0, (v 0 11), 0, v)) (br (Nat.beq x1.toNatClampNeg 2) (some (0, (v 0 12), 0, v)) (br (Nat.beq x1.toNatClampNeg 3) (some (0, (v 0 13), 0, v)) (none))))) (some (1, 0, 0, v))
set_option maxHeartbeats 4000000 in
set_option maxRecDepth 100000 in
theorem Ca_S_count {l : Launch} {G : go_G} {ad : Nat → Nat} (hl : l.stackTraces = false) {r : go_R} {x1 : Int32} {v : go_V} (h : f_S_count x1 v = some r) : Ca l G y_S_count (.code y_S_count c_S_count 2 (some .int) :: go_TT) (rmD 0 1) 1 ad [.ref (ad (0)), .int x1] v r := by
  unfold f_S_count at h
  refine go_body (own := RS) (by decide) rfl (Nat.le_of_ble_eq_true rfl) ?_
  show Go l G M_S_count go_Ex0 (go_E G ad 1 r 1 6) ad v [(0, .ref (ad (0))), (1, .int x1)] 0 [] 0 0
  refine go_iload_n (d_S_count 0 rfl) rfl rfl ?_
  rcases br_some h with ⟨c_1, h⟩ | ⟨c_1, h⟩
  · rcases br_some h with ⟨c_2, h⟩ | ⟨c_2, h⟩
    · refine go_tsw (tgt := 32) (n := 3) (d_S_count 1 rfl) c_1 rfl c_2 rfl (by decide) ?_
      refine go_aload_n (d_S_count 32 rfl) rfl rfl ?_
      refine go_getI (d_S_count 33 rfl) fl_S_101 rfl rfl ?_
      exact go_iret (d_S_count 36 rfl) rfl rfl (Option.some.inj h) (by decide) (by decide)
    rcases br_some h with ⟨c_3, h⟩ | ⟨c_3, h⟩
    · refine go_tsw (tgt := 37) (n := 3) (d_S_count 1 rfl) c_1 rfl c_3 rfl (by decide) ?_
      refine go_aload_n (d_S_count 37 rfl) rfl rfl ?_
      refine go_getI (d_S_count 38 rfl) fl_S_132 rfl rfl ?_
      exact go_iret (d_S_count 41 rfl) rfl rfl (Option.some.inj h) (by decide) (by decide)
    rcases br_some h with ⟨c_4, h⟩ | ⟨c_4, h⟩
    · refine go_tsw (tgt := 42) (n := 3) (d_S_count 1 rfl) c_1 rfl c_4 rfl (by decide) ?_
      refine go_aload_n (d_S_count 42 rfl) rfl rfl ?_
      refine go_getI (d_S_count 43 rfl) fl_S_154 rfl rfl ?_
      exact go_iret (d_S_count 46 rfl) rfl rfl (Option.some.inj h) (by decide) (by decide)
    rcases br_some h with ⟨c_5, h⟩ | ⟨c_5, h⟩
    · refine go_tsw (tgt := 47) (n := 3) (d_S_count 1 rfl) c_1 rfl c_5 rfl (by decide) ?_
      refine go_aload_n (d_S_count 47 rfl) rfl rfl ?_
      refine go_getI (d_S_count 48 rfl) fl_S_194 rfl rfl ?_
      exact go_iret (d_S_count 51 rfl) rfl rfl (Option.some.inj h) (by decide) (by decide)
    cases h
  · refine go_tswO (tgt := 52) (n := 3) (d_S_count 1 rfl) c_1 rfl (by decide) ?_
    exact go_thr (text := "no such thing is counted") hl xs_65_69_1 (by decide +kernel) rfl rfl (d_S_count 52 rfl) (d_S_count 55 rfl) (d_S_count 56 rfl) (d_S_count 58 rfl) (d_S_count 61 rfl) ⟨by decide, Nat.le_of_ble_eq_true rfl, by decide, by decide⟩ (Option.some.inj h) (by decide) (by decide)
