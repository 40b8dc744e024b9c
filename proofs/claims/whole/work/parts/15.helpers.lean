/-! read back by wip/whole/dec.py: a function a method, and the rows that tie them -/
abbrev M_L_row : go_M := (c_L_row, 5, (some .int), RL, tableOf [(0, 7, 10, 13), (0, 7, 14, 15)], rmD 2 3)
def f_L_row (x1 : Int32) (x2 : Int32) (x3 : Int32) (v : go_V) : Option go_R := bd (f_S_row x1 x2 x3 v) (fun r_1 => br (Nat.beq r_1.1 0) (some (0, (0 : Int32), 0, r_1.2.2.2)) (br (Nat.beq r_1.1 1) (some (0, (1 : Int32), 0, r_1.2.2.2)) (br (Nat.beq r_1.1 2) (some (0, (2 : Int32), 0, r_1.2.2.2)) (none))))
set_option maxHeartbeats 4000000 in
set_option maxRecDepth 100000 in
theorem Ca_L_row {l : Launch} {G : go_G} {ad : Nat → Nat} (hl : l.stackTraces = false) {r : go_R} {x1 : Int32} {x2 : Int32} {x3 : Int32} {v : go_V} (h : f_L_row x1 x2 x3 v = some r) : Ca l G y_L_row (.codeWith y_L_row c_L_row 5 (some .int) [(0, 7, 10, 13), (0, 7, 14, 15)] :: go_TT) (rmD 2 3) 1 ad [.ref (ad (0)), .int x1, .int x2, .int x3] v r := by
  unfold f_L_row at h
  refine go_bodyX (own := RL) (by decide) rfl (Nat.le_of_ble_eq_true rfl) ?_
  show Go l G M_L_row go_Ex0 (go_E G ad 1 r 3 18) ad v [(0, .ref (ad (0))), (1, .int x1), (2, .int x2), (3, .int x3)] 0 [] 0 0
  refine go_aload_n (d_L_row 0 rfl) rfl rfl ?_
  refine go_iload_n (d_L_row 1 rfl) rfl rfl ?_
  refine go_iload_n (d_L_row 2 rfl) rfl rfl ?_
  refine go_iload_n (d_L_row 3 rfl) rfl rfl ?_
  obtain ⟨r_1, o_2, h⟩ := bd_some h
  rcases br_some h with ⟨z_3, h⟩ | ⟨z_3, h⟩
  · refine go_cV (As := [.int x1, .int x2, .int x3]) (rest := []) (st2 := []) (c2 := 3) (s2 := 18) rfl rfl rfl rfl (Ca_S_row hl o_2)  (d_L_row 4 rfl) cw_L_7 ⟨w_185, w_186⟩ rfl (by decide) rfl ⟨by decide, by decide⟩ rfl (Nat.le_of_ble_eq_true rfl) ⟨by decide, by decide⟩ (fun _ => ?_) (fun q => absurd (Nat.eq_of_beq_eq_true z_3) q)
    refine go_goto (tgt := 18) (d_L_row 7 rfl) (by decide) ?_
    refine go_iconst (x := (0 : Int32)) (d_L_row 18 rfl) (by decide) ?_
    exact go_iret (d_L_row 19 rfl) rfl rfl (Option.some.inj h) (by decide) (by decide)
  rcases br_some h with ⟨z_5, h⟩ | ⟨z_5, h⟩
  · refine go_cV (As := [.int x1, .int x2, .int x3]) (rest := []) (st2 := []) (c2 := 3) (s2 := 18) rfl rfl rfl rfl (Ca_S_row hl o_2)  (d_L_row 4 rfl) cw_L_7 ⟨w_185, w_186⟩ rfl (by decide) rfl ⟨by decide, by decide⟩ rfl (Nat.le_of_ble_eq_true rfl) ⟨by decide, by decide⟩ (fun q => absurd q (Nat.ne_of_beq_eq_false z_3)) (fun _ => ?_)
    rw [Nat.eq_of_beq_eq_true z_5]
    refine gx_catch [] ⟨0, 7, 10, 13⟩ [⟨0, 7, 14, 15⟩] rfl (fun y hy => nomatch hy) rfl (by decide) w_182 w_193 (fun q_4 => ?_)
    refine go_astore (lv' := [(0, .ref (ad (0))), (1, .int x1), (2, .int x2), (3, .int x3), (4, .ref q_4)]) (d_L_row 10 rfl) (by decide) rfl ?_
    refine go_iconst (x := (1 : Int32)) (d_L_row 12 rfl) (by decide) ?_
    exact go_iret (d_L_row 13 rfl) rfl rfl (Option.some.inj h) (by decide) (by decide)
  rcases br_some h with ⟨z_7, h⟩ | ⟨z_7, h⟩
  · refine go_cV (As := [.int x1, .int x2, .int x3]) (rest := []) (st2 := []) (c2 := 3) (s2 := 18) rfl rfl rfl rfl (Ca_S_row hl o_2)  (d_L_row 4 rfl) cw_L_7 ⟨w_185, w_186⟩ rfl (by decide) rfl ⟨by decide, by decide⟩ rfl (Nat.le_of_ble_eq_true rfl) ⟨by decide, by decide⟩ (fun q => absurd q (Nat.ne_of_beq_eq_false z_3)) (fun _ => ?_)
    rw [Nat.eq_of_beq_eq_true z_7]
    refine gx_catch [⟨0, 7, 10, 13⟩] ⟨0, 7, 14, 15⟩ [] rfl (fun y hy => by
      rcases (by simpa using hy : y = (⟨0, 7, 10, 13⟩ : ExceptionTableEntry)) with rfl
      · exact Or.inr ⟨by decide, _, w_182, by decide +kernel⟩) rfl (by decide) w_183 w_269 (fun q_6 => ?_)
    refine go_astore (lv' := [(0, .ref (ad (0))), (1, .int x1), (2, .int x2), (3, .int x3), (4, .ref q_6)]) (d_L_row 14 rfl) (by decide) rfl ?_
    refine go_iconst (x := (2 : Int32)) (d_L_row 16 rfl) (by decide) ?_
    exact go_iret (d_L_row 17 rfl) rfl rfl (Option.some.inj h) (by decide) (by decide)
  cases h
abbrev M_L_top : go_M := (c_L_top, 3, (some .int), RL, tableOf [(0, 5, 8, 13), (0, 5, 11, 21)], rmD 2 2)
def f_L_top (x1 : Int32) (v : go_V) : Option go_R := bd (f_S_top x1 v) (fun r_1 => br (Nat.beq r_1.1 0) (some (0, (0 : Int32), 0, r_1.2.2.2)) (br (Nat.beq r_1.1 1) (some (0, (1 : Int32), 0, r_1.2.2.2)) (br (Nat.beq r_1.1 3) (some (0, (2 : Int32), 0, r_1.2.2.2)) (none))))
set_option maxHeartbeats 4000000 in
set_option maxRecDepth 100000 in
theorem Ca_L_top {l : Launch} {G : go_G} {ad : Nat → Nat} (hl : l.stackTraces = false) {r : go_R} {x1 : Int32} {v : go_V} (h : f_L_top x1 v = some r) : Ca l G y_L_top (.codeWith y_L_top c_L_top 3 (some .int) [(0, 5, 8, 13), (0, 5, 11, 21)] :: go_TT) (rmD 2 2) 1 ad [.ref (ad (0)), .int x1] v r := by
  unfold f_L_top at h
  refine go_bodyX (own := RL) (by decide) rfl (Nat.le_of_ble_eq_true rfl) ?_
  show Go l G M_L_top go_Ex0 (go_E G ad 1 r 2 12) ad v [(0, .ref (ad (0))), (1, .int x1)] 0 [] 0 0
  refine go_aload_n (d_L_top 0 rfl) rfl rfl ?_
  refine go_iload_n (d_L_top 1 rfl) rfl rfl ?_
  obtain ⟨r_1, o_2, h⟩ := bd_some h
  rcases br_some h with ⟨z_3, h⟩ | ⟨z_3, h⟩
  · refine go_cV (As := [.int x1]) (rest := []) (st2 := []) (c2 := 2) (s2 := 12) rfl rfl rfl rfl (Ca_S_top hl o_2)  (d_L_top 2 rfl) cw_L_17 ⟨w_288, w_289⟩ rfl (by decide) rfl ⟨by decide, by decide⟩ rfl (Nat.le_of_ble_eq_true rfl) ⟨by decide, by decide⟩ (fun _ => ?_) (fun q => absurd (Nat.eq_of_beq_eq_true z_3) q)
    refine go_goto (tgt := 14) (d_L_top 5 rfl) (by decide) ?_
    refine go_iconst (x := (0 : Int32)) (d_L_top 14 rfl) (by decide) ?_
    exact go_iret (d_L_top 15 rfl) rfl rfl (Option.some.inj h) (by decide) (by decide)
  rcases br_some h with ⟨z_5, h⟩ | ⟨z_5, h⟩
  · refine go_cV (As := [.int x1]) (rest := []) (st2 := []) (c2 := 2) (s2 := 12) rfl rfl rfl rfl (Ca_S_top hl o_2)  (d_L_top 2 rfl) cw_L_17 ⟨w_288, w_289⟩ rfl (by decide) rfl ⟨by decide, by decide⟩ rfl (Nat.le_of_ble_eq_true rfl) ⟨by decide, by decide⟩ (fun q => absurd q (Nat.ne_of_beq_eq_false z_3)) (fun _ => ?_)
    rw [Nat.eq_of_beq_eq_true z_5]
    refine gx_catch [] ⟨0, 5, 8, 13⟩ [⟨0, 5, 11, 21⟩] rfl (fun y hy => nomatch hy) rfl (by decide) w_182 w_193 (fun q_4 => ?_)
    refine go_astore_n (lv' := [(0, .ref (ad (0))), (1, .int x1), (2, .ref q_4)]) (d_L_top 8 rfl) rfl (by decide) rfl ?_
    refine go_iconst (x := (1 : Int32)) (d_L_top 9 rfl) (by decide) ?_
    exact go_iret (d_L_top 10 rfl) rfl rfl (Option.some.inj h) (by decide) (by decide)
  rcases br_some h with ⟨z_7, h⟩ | ⟨z_7, h⟩
  · refine go_cV (As := [.int x1]) (rest := []) (st2 := []) (c2 := 2) (s2 := 12) rfl rfl rfl rfl (Ca_S_top hl o_2)  (d_L_top 2 rfl) cw_L_17 ⟨w_288, w_289⟩ rfl (by decide) rfl ⟨by decide, by decide⟩ rfl (Nat.le_of_ble_eq_true rfl) ⟨by decide, by decide⟩ (fun q => absurd q (Nat.ne_of_beq_eq_false z_3)) (fun _ => ?_)
    rw [Nat.eq_of_beq_eq_true z_7]
    refine gx_catch [⟨0, 5, 8, 13⟩] ⟨0, 5, 11, 21⟩ [] rfl (fun y hy => by
      rcases (by simpa using hy : y = (⟨0, 5, 8, 13⟩ : ExceptionTableEntry)) with rfl
      · exact Or.inr ⟨by decide, _, w_182, by decide +kernel⟩) rfl (by decide) w_286 w_297 (fun q_6 => ?_)
    refine go_astore_n (lv' := [(0, .ref (ad (0))), (1, .int x1), (2, .ref q_6)]) (d_L_top 11 rfl) rfl (by decide) rfl ?_
    refine go_iconst (x := (2 : Int32)) (d_L_top 12 rfl) (by decide) ?_
    exact go_iret (d_L_top 13 rfl) rfl rfl (Option.some.inj h) (by decide) (by decide)
  cases h
abbrev M_L_trigger : go_M := (c_L_trigger, 7, (some .int), RL, tableOf [(0, 14, 17, 13), (0, 14, 21, 15), (0, 14, 25, 27)], rmD 2 4)
def f_L_trigger (x1 : Int32) (x2 : Int32) (x3 : Int32) (x4 : Int32) (v : go_V) : Option go_R := bd (f_S_trigger x1 x2 x3 x4 v) (fun r_1 => br (Nat.beq r_1.1 0) (gd (go_in (0 : Int32) 1) (ln (u2 r_1.2.2.2 119 (0 : Int32).toNatClampNeg r_1.2.1) (fun v_5 => some (0, (0 : Int32), 0, v_5)))) (br (Nat.beq r_1.1 1) (some (0, (1 : Int32), 0, r_1.2.2.2)) (br (Nat.beq r_1.1 2) (some (0, (2 : Int32), 0, r_1.2.2.2)) (br (Nat.beq r_1.1 4) (some (0, (3 : Int32), 0, r_1.2.2.2)) (none)))))
set_option maxHeartbeats 4000000 in
set_option maxRecDepth 100000 in
theorem Ca_L_trigger {l : Launch} {G : go_G} {ad : Nat → Nat} (hl : l.stackTraces = false) {r : go_R} {x1 : Int32} {x2 : Int32} {x3 : Int32} {x4 : Int32} {v : go_V} (h : f_L_trigger x1 x2 x3 x4 v = some r) : Ca l G y_L_trigger (.codeWith y_L_trigger c_L_trigger 7 (some .int) [(0, 14, 17, 13), (0, 14, 21, 15), (0, 14, 25, 27)] :: go_TT) (rmD 2 4) 1 ad [.ref (ad (0)), .int x1, .int x2, .int x3, .int x4, .ref (ad (119))] v r := by
  unfold f_L_trigger at h
  refine go_bodyX (own := RL) (by decide) rfl (Nat.le_of_ble_eq_true rfl) ?_
  show Go l G M_L_trigger go_Ex0 (go_E G ad 1 r 4 24) ad v [(0, .ref (ad (0))), (1, .int x1), (2, .int x2), (3, .int x3), (4, .int x4), (5, .ref (ad (119)))] 0 [] 0 0
  refine go_aload (d_L_trigger 0 rfl) rfl ?_
  refine go_iconst (x := (0 : Int32)) (d_L_trigger 2 rfl) (by decide) ?_
  refine go_aload_n (d_L_trigger 3 rfl) rfl rfl ?_
  refine go_iload_n (d_L_trigger 4 rfl) rfl rfl ?_
  refine go_iload_n (d_L_trigger 5 rfl) rfl rfl ?_
  refine go_iload_n (d_L_trigger 6 rfl) rfl rfl ?_
  refine go_iload (d_L_trigger 7 rfl) rfl ?_
  obtain ⟨r_1, o_2, h⟩ := bd_some h
  rcases br_some h with ⟨z_3, h⟩ | ⟨z_3, h⟩
  · refine go_cV (As := [.int x1, .int x2, .int x3, .int x4]) (rest := [.int ((0 : Int32)), .ref (ad (119))]) (st2 := [.int (r_1.2.1), .int ((0 : Int32)), .ref (ad (119))]) (c2 := 4) (s2 := 24) rfl rfl rfl rfl (Ca_S_trigger hl o_2)  (d_L_trigger 9 rfl) cw_L_23 ⟨w_316, w_317⟩ rfl (by decide) rfl ⟨by decide, by decide⟩ rfl (Nat.le_of_ble_eq_true rfl) ⟨by decide, by decide⟩ (fun _ => ?_) (fun q => absurd (Nat.eq_of_beq_eq_true z_3) q)
    refine go_i2l (d_L_trigger 12 rfl) ?_
    obtain ⟨g_4, h⟩ := gd_some h
    obtain ⟨v_5, ev_5, h⟩ := ln_some h
    refine go_last (y := r_1.2.1) (d_L_trigger 13 rfl) rfl g_4 ?_
    rw [← ev_5]
    refine go_goto (tgt := 29) (d_L_trigger 14 rfl) (by decide) ?_
    refine go_iconst (x := (0 : Int32)) (d_L_trigger 29 rfl) (by decide) ?_
    exact go_iret (d_L_trigger 30 rfl) rfl rfl (Option.some.inj h) (by decide) (by decide)
  rcases br_some h with ⟨z_7, h⟩ | ⟨z_7, h⟩
  · refine go_cV (As := [.int x1, .int x2, .int x3, .int x4]) (rest := [.int ((0 : Int32)), .ref (ad (119))]) (st2 := [.int (r_1.2.1), .int ((0 : Int32)), .ref (ad (119))]) (c2 := 4) (s2 := 24) rfl rfl rfl rfl (Ca_S_trigger hl o_2)  (d_L_trigger 9 rfl) cw_L_23 ⟨w_316, w_317⟩ rfl (by decide) rfl ⟨by decide, by decide⟩ rfl (Nat.le_of_ble_eq_true rfl) ⟨by decide, by decide⟩ (fun q => absurd q (Nat.ne_of_beq_eq_false z_3)) (fun _ => ?_)
    rw [Nat.eq_of_beq_eq_true z_7]
    refine gx_catch [] ⟨0, 14, 17, 13⟩ [⟨0, 14, 21, 15⟩, ⟨0, 14, 25, 27⟩] rfl (fun y hy => nomatch hy) rfl (by decide) w_182 w_193 (fun q_6 => ?_)
    refine go_astore (lv' := [(0, .ref (ad (0))), (1, .int x1), (2, .int x2), (3, .int x3), (4, .int x4), (5, .ref (ad (119))), (6, .ref q_6)]) (d_L_trigger 17 rfl) (by decide) rfl ?_
    refine go_iconst (x := (1 : Int32)) (d_L_trigger 19 rfl) (by decide) ?_
    exact go_iret (d_L_trigger 20 rfl) rfl rfl (Option.some.inj h) (by decide) (by decide)
  rcases br_some h with ⟨z_9, h⟩ | ⟨z_9, h⟩
  · refine go_cV (As := [.int x1, .int x2, .int x3, .int x4]) (rest := [.int ((0 : Int32)), .ref (ad (119))]) (st2 := [.int (r_1.2.1), .int ((0 : Int32)), .ref (ad (119))]) (c2 := 4) (s2 := 24) rfl rfl rfl rfl (Ca_S_trigger hl o_2)  (d_L_trigger 9 rfl) cw_L_23 ⟨w_316, w_317⟩ rfl (by decide) rfl ⟨by decide, by decide⟩ rfl (Nat.le_of_ble_eq_true rfl) ⟨by decide, by decide⟩ (fun q => absurd q (Nat.ne_of_beq_eq_false z_3)) (fun _ => ?_)
    rw [Nat.eq_of_beq_eq_true z_9]
    refine gx_catch [⟨0, 14, 17, 13⟩] ⟨0, 14, 21, 15⟩ [⟨0, 14, 25, 27⟩] rfl (fun y hy => by
      rcases (by simpa using hy : y = (⟨0, 14, 17, 13⟩ : ExceptionTableEntry)) with rfl
      · exact Or.inr ⟨by decide, _, w_182, by decide +kernel⟩) rfl (by decide) w_183 w_269 (fun q_8 => ?_)
    refine go_astore (lv' := [(0, .ref (ad (0))), (1, .int x1), (2, .int x2), (3, .int x3), (4, .int x4), (5, .ref (ad (119))), (6, .ref q_8)]) (d_L_trigger 21 rfl) (by decide) rfl ?_
    refine go_iconst (x := (2 : Int32)) (d_L_trigger 23 rfl) (by decide) ?_
    exact go_iret (d_L_trigger 24 rfl) rfl rfl (Option.some.inj h) (by decide) (by decide)
  rcases br_some h with ⟨z_11, h⟩ | ⟨z_11, h⟩
  · refine go_cV (As := [.int x1, .int x2, .int x3, .int x4]) (rest := [.int ((0 : Int32)), .ref (ad (119))]) (st2 := [.int (r_1.2.1), .int ((0 : Int32)), .ref (ad (119))]) (c2 := 4) (s2 := 24) rfl rfl rfl rfl (Ca_S_trigger hl o_2)  (d_L_trigger 9 rfl) cw_L_23 ⟨w_316, w_317⟩ rfl (by decide) rfl ⟨by decide, by decide⟩ rfl (Nat.le_of_ble_eq_true rfl) ⟨by decide, by decide⟩ (fun q => absurd q (Nat.ne_of_beq_eq_false z_3)) (fun _ => ?_)
    rw [Nat.eq_of_beq_eq_true z_11]
    refine gx_catch [⟨0, 14, 17, 13⟩, ⟨0, 14, 21, 15⟩] ⟨0, 14, 25, 27⟩ [] rfl (fun y hy => by
      rcases (by simpa using hy : y = (⟨0, 14, 17, 13⟩ : ExceptionTableEntry) ∨ y = (⟨0, 14, 21, 15⟩ : ExceptionTableEntry)) with rfl | rfl
      · exact Or.inr ⟨by decide, _, w_182, by decide +kernel⟩
      · exact Or.inr ⟨by decide, _, w_183, by decide +kernel⟩) rfl (by decide) w_314 w_327 (fun q_10 => ?_)
    refine go_astore (lv' := [(0, .ref (ad (0))), (1, .int x1), (2, .int x2), (3, .int x3), (4, .int x4), (5, .ref (ad (119))), (6, .ref q_10)]) (d_L_trigger 25 rfl) (by decide) rfl ?_
    refine go_iconst (x := (3 : Int32)) (d_L_trigger 27 rfl) (by decide) ?_
    exact go_iret (d_L_trigger 28 rfl) rfl rfl (Option.some.inj h) (by decide) (by decide)
  cases h
abbrev M_L_begin : go_M := (c_L_begin, 3, (some .int), RL, tableOf [(0, 8, 11, 27)], rmD 1 1)
def f_L_begin  (v : go_V) : Option go_R := bd (f_S_begin v) (fun r_1 => br (Nat.beq r_1.1 0) (gd (go_in (0 : Int32) 1) (ln (u2 r_1.2.2.2 119 (0 : Int32).toNatClampNeg r_1.2.1) (fun v_5 => some (0, (0 : Int32), 0, v_5)))) (br (Nat.beq r_1.1 4) (some (0, (1 : Int32), 0, r_1.2.2.2)) (none)))
set_option maxHeartbeats 4000000 in
set_option maxRecDepth 100000 in
theorem Ca_L_begin {l : Launch} {G : go_G} {ad : Nat → Nat} (hl : l.stackTraces = false) {r : go_R}  {v : go_V} (h : f_L_begin  v = some r) : Ca l G y_L_begin (.codeWith y_L_begin c_L_begin 3 (some .int) [(0, 8, 11, 27)] :: go_TT) (rmD 1 1) 1 ad [.ref (ad (0)), .ref (ad (119))] v r := by
  unfold f_L_begin at h
  refine go_bodyX (own := RL) (by decide) rfl (Nat.le_of_ble_eq_true rfl) ?_
  show Go l G M_L_begin go_Ex0 (go_E G ad 1 r 1 6) ad v [(0, .ref (ad (0))), (1, .ref (ad (119)))] 0 [] 0 0
  refine go_aload_n (d_L_begin 0 rfl) rfl rfl ?_
  refine go_iconst (x := (0 : Int32)) (d_L_begin 1 rfl) (by decide) ?_
  refine go_aload_n (d_L_begin 2 rfl) rfl rfl ?_
  obtain ⟨r_1, o_2, h⟩ := bd_some h
  rcases br_some h with ⟨z_3, h⟩ | ⟨z_3, h⟩
  · refine go_cV (As := []) (rest := [.int ((0 : Int32)), .ref (ad (119))]) (st2 := [.int (r_1.2.1), .int ((0 : Int32)), .ref (ad (119))]) (c2 := 1) (s2 := 6) rfl rfl rfl rfl (Ca_S_begin hl o_2)  (d_L_begin 3 rfl) cw_L_29 ⟨w_353, w_354⟩ rfl (by decide) rfl ⟨by decide, by decide⟩ rfl (Nat.le_of_ble_eq_true rfl) ⟨by decide, by decide⟩ (fun _ => ?_) (fun q => absurd (Nat.eq_of_beq_eq_true z_3) q)
    refine go_i2l (d_L_begin 6 rfl) ?_
    obtain ⟨g_4, h⟩ := gd_some h
    obtain ⟨v_5, ev_5, h⟩ := ln_some h
    refine go_last (y := r_1.2.1) (d_L_begin 7 rfl) rfl g_4 ?_
    rw [← ev_5]
    refine go_goto (tgt := 14) (d_L_begin 8 rfl) (by decide) ?_
    refine go_iconst (x := (0 : Int32)) (d_L_begin 14 rfl) (by decide) ?_
    exact go_iret (d_L_begin 15 rfl) rfl rfl (Option.some.inj h) (by decide) (by decide)
  rcases br_some h with ⟨z_7, h⟩ | ⟨z_7, h⟩
  · refine go_cV (As := []) (rest := [.int ((0 : Int32)), .ref (ad (119))]) (st2 := [.int (r_1.2.1), .int ((0 : Int32)), .ref (ad (119))]) (c2 := 1) (s2 := 6) rfl rfl rfl rfl (Ca_S_begin hl o_2)  (d_L_begin 3 rfl) cw_L_29 ⟨w_353, w_354⟩ rfl (by decide) rfl ⟨by decide, by decide⟩ rfl (Nat.le_of_ble_eq_true rfl) ⟨by decide, by decide⟩ (fun q => absurd q (Nat.ne_of_beq_eq_false z_3)) (fun _ => ?_)
    rw [Nat.eq_of_beq_eq_true z_7]
    refine gx_catch [] ⟨0, 8, 11, 27⟩ [] rfl (fun y hy => nomatch hy) rfl (by decide) w_314 w_327 (fun q_6 => ?_)
    refine go_astore_n (lv' := [(0, .ref (ad (0))), (1, .ref (ad (119))), (2, .ref q_6)]) (d_L_begin 11 rfl) rfl (by decide) rfl ?_
    refine go_iconst (x := (1 : Int32)) (d_L_begin 12 rfl) (by decide) ?_
    exact go_iret (d_L_begin 13 rfl) rfl rfl (Option.some.inj h) (by decide) (by decide)
  cases h
abbrev M_L_close : go_M := (c_L_close, 3, (some .int), RL, tableOf [(0, 5, 8, 13), (0, 5, 11, 21)], rmD 2 2)
def f_L_close (x1 : Int32) (v : go_V) : Option go_R := bd (f_S_close x1 v) (fun r_1 => br (Nat.beq r_1.1 0) (some (0, (0 : Int32), 0, r_1.2.2.2)) (br (Nat.beq r_1.1 1) (some (0, (1 : Int32), 0, r_1.2.2.2)) (br (Nat.beq r_1.1 3) (some (0, (2 : Int32), 0, r_1.2.2.2)) (none))))
set_option maxHeartbeats 4000000 in
set_option maxRecDepth 100000 in
theorem Ca_L_close {l : Launch} {G : go_G} {ad : Nat → Nat} (hl : l.stackTraces = false) {r : go_R} {x1 : Int32} {v : go_V} (h : f_L_close x1 v = some r) : Ca l G y_L_close (.codeWith y_L_close c_L_close 3 (some .int) [(0, 5, 8, 13), (0, 5, 11, 21)] :: go_TT) (rmD 2 2) 1 ad [.ref (ad (0)), .int x1] v r := by
  unfold f_L_close at h
  refine go_bodyX (own := RL) (by decide) rfl (Nat.le_of_ble_eq_true rfl) ?_
  show Go l G M_L_close go_Ex0 (go_E G ad 1 r 2 12) ad v [(0, .ref (ad (0))), (1, .int x1)] 0 [] 0 0
  refine go_aload_n (d_L_close 0 rfl) rfl rfl ?_
  refine go_iload_n (d_L_close 1 rfl) rfl rfl ?_
  obtain ⟨r_1, o_2, h⟩ := bd_some h
  rcases br_some h with ⟨z_3, h⟩ | ⟨z_3, h⟩
  · refine go_cV (As := [.int x1]) (rest := []) (st2 := []) (c2 := 2) (s2 := 12) rfl rfl rfl rfl (Ca_S_close hl o_2)  (d_L_close 2 rfl) cw_L_33 ⟨w_361, w_362⟩ rfl (by decide) rfl ⟨by decide, by decide⟩ rfl (Nat.le_of_ble_eq_true rfl) ⟨by decide, by decide⟩ (fun _ => ?_) (fun q => absurd (Nat.eq_of_beq_eq_true z_3) q)
    refine go_goto (tgt := 14) (d_L_close 5 rfl) (by decide) ?_
    refine go_iconst (x := (0 : Int32)) (d_L_close 14 rfl) (by decide) ?_
    exact go_iret (d_L_close 15 rfl) rfl rfl (Option.some.inj h) (by decide) (by decide)
  rcases br_some h with ⟨z_5, h⟩ | ⟨z_5, h⟩
  · refine go_cV (As := [.int x1]) (rest := []) (st2 := []) (c2 := 2) (s2 := 12) rfl rfl rfl rfl (Ca_S_close hl o_2)  (d_L_close 2 rfl) cw_L_33 ⟨w_361, w_362⟩ rfl (by decide) rfl ⟨by decide, by decide⟩ rfl (Nat.le_of_ble_eq_true rfl) ⟨by decide, by decide⟩ (fun q => absurd q (Nat.ne_of_beq_eq_false z_3)) (fun _ => ?_)
    rw [Nat.eq_of_beq_eq_true z_5]
    refine gx_catch [] ⟨0, 5, 8, 13⟩ [⟨0, 5, 11, 21⟩] rfl (fun y hy => nomatch hy) rfl (by decide) w_182 w_193 (fun q_4 => ?_)
    refine go_astore_n (lv' := [(0, .ref (ad (0))), (1, .int x1), (2, .ref q_4)]) (d_L_close 8 rfl) rfl (by decide) rfl ?_
    refine go_iconst (x := (1 : Int32)) (d_L_close 9 rfl) (by decide) ?_
    exact go_iret (d_L_close 10 rfl) rfl rfl (Option.some.inj h) (by decide) (by decide)
  rcases br_some h with ⟨z_7, h⟩ | ⟨z_7, h⟩
  · refine go_cV (As := [.int x1]) (rest := []) (st2 := []) (c2 := 2) (s2 := 12) rfl rfl rfl rfl (Ca_S_close hl o_2)  (d_L_close 2 rfl) cw_L_33 ⟨w_361, w_362⟩ rfl (by decide) rfl ⟨by decide, by decide⟩ rfl (Nat.le_of_ble_eq_true rfl) ⟨by decide, by decide⟩ (fun q => absurd q (Nat.ne_of_beq_eq_false z_3)) (fun _ => ?_)
    rw [Nat.eq_of_beq_eq_true z_7]
    refine gx_catch [⟨0, 5, 8, 13⟩] ⟨0, 5, 11, 21⟩ [] rfl (fun y hy => by
      rcases (by simpa using hy : y = (⟨0, 5, 8, 13⟩ : ExceptionTableEntry)) with rfl
      · exact Or.inr ⟨by decide, _, w_182, by decide +kernel⟩) rfl (by decide) w_286 w_297 (fun q_6 => ?_)
    refine go_astore_n (lv' := [(0, .ref (ad (0))), (1, .int x1), (2, .ref q_6)]) (d_L_close 11 rfl) rfl (by decide) rfl ?_
    refine go_iconst (x := (2 : Int32)) (d_L_close 12 rfl) (by decide) ?_
    exact go_iret (d_L_close 13 rfl) rfl rfl (Option.some.inj h) (by decide) (by decide)
  cases h
abbrev M_L_tick : go_M := (c_L_tick, 4, (some .int), RL, tableOf [(0, 9, 12, 15)], rmD 4 2)
def f_L_tick (x1 : Int32) (v : go_V) : Option go_R := bd (f_S_tick x1 v) (fun r_1 => br (Nat.beq r_1.1 0) (gd (go_in (0 : Int32) 1) (ln (u2 r_1.2.2.2 119 (0 : Int32).toNatClampNeg r_1.2.1) (fun v_5 => some (0, (0 : Int32), 0, v_5)))) (br (Nat.beq r_1.1 2) (some (0, (1 : Int32), 0, r_1.2.2.2)) (none)))
set_option maxHeartbeats 4000000 in
set_option maxRecDepth 100000 in
theorem Ca_L_tick {l : Launch} {G : go_G} {ad : Nat → Nat} (hl : l.stackTraces = false) {r : go_R} {x1 : Int32} {v : go_V} (h : f_L_tick x1 v = some r) : Ca l G y_L_tick (.codeWith y_L_tick c_L_tick 4 (some .int) [(0, 9, 12, 15)] :: go_TT) (rmD 4 2) 1 ad [.ref (ad (0)), .int x1, .ref (ad (119))] v r := by
  unfold f_L_tick at h
  refine go_bodyX (own := RL) (by decide) rfl (Nat.le_of_ble_eq_true rfl) ?_
  show Go l G M_L_tick go_Ex0 (go_E G ad 1 r 2 12) ad v [(0, .ref (ad (0))), (1, .int x1), (2, .ref (ad (119)))] 0 [] 0 0
  refine go_aload_n (d_L_tick 0 rfl) rfl rfl ?_
  refine go_iconst (x := (0 : Int32)) (d_L_tick 1 rfl) (by decide) ?_
  refine go_aload_n (d_L_tick 2 rfl) rfl rfl ?_
  refine go_iload_n (d_L_tick 3 rfl) rfl rfl ?_
  obtain ⟨r_1, o_2, h⟩ := bd_some h
  rcases br_some h with ⟨z_3, h⟩ | ⟨z_3, h⟩
  · refine go_cV (As := [.int x1]) (rest := [.int ((0 : Int32)), .ref (ad (119))]) (st2 := [.int (r_1.2.1), .int ((0 : Int32)), .ref (ad (119))]) (c2 := 2) (s2 := 12) rfl rfl rfl rfl (Ca_S_tick hl o_2)  (d_L_tick 4 rfl) cw_L_36 ⟨w_381, w_382⟩ rfl (by decide) rfl ⟨by decide, by decide⟩ rfl (Nat.le_of_ble_eq_true rfl) ⟨by decide, by decide⟩ (fun _ => ?_) (fun q => absurd (Nat.eq_of_beq_eq_true z_3) q)
    refine go_i2l (d_L_tick 7 rfl) ?_
    obtain ⟨g_4, h⟩ := gd_some h
    obtain ⟨v_5, ev_5, h⟩ := ln_some h
    refine go_last (y := r_1.2.1) (d_L_tick 8 rfl) rfl g_4 ?_
    rw [← ev_5]
    refine go_goto (tgt := 15) (d_L_tick 9 rfl) (by decide) ?_
    refine go_iconst (x := (0 : Int32)) (d_L_tick 15 rfl) (by decide) ?_
    exact go_iret (d_L_tick 16 rfl) rfl rfl (Option.some.inj h) (by decide) (by decide)
  rcases br_some h with ⟨z_7, h⟩ | ⟨z_7, h⟩
  · refine go_cV (As := [.int x1]) (rest := [.int ((0 : Int32)), .ref (ad (119))]) (st2 := [.int (r_1.2.1), .int ((0 : Int32)), .ref (ad (119))]) (c2 := 2) (s2 := 12) rfl rfl rfl rfl (Ca_S_tick hl o_2)  (d_L_tick 4 rfl) cw_L_36 ⟨w_381, w_382⟩ rfl (by decide) rfl ⟨by decide, by decide⟩ rfl (Nat.le_of_ble_eq_true rfl) ⟨by decide, by decide⟩ (fun q => absurd q (Nat.ne_of_beq_eq_false z_3)) (fun _ => ?_)
    rw [Nat.eq_of_beq_eq_true z_7]
    refine gx_catch [] ⟨0, 9, 12, 15⟩ [] rfl (fun y hy => nomatch hy) rfl (by decide) w_183 w_269 (fun q_6 => ?_)
    refine go_astore_n (lv' := [(0, .ref (ad (0))), (1, .int x1), (2, .ref (ad (119))), (3, .ref q_6)]) (d_L_tick 12 rfl) rfl (by decide) rfl ?_
    refine go_iconst (x := (1 : Int32)) (d_L_tick 13 rfl) (by decide) ?_
    exact go_iret (d_L_tick 14 rfl) rfl rfl (Option.some.inj h) (by decide) (by decide)
  cases h
abbrev M_L_word : go_M := (c_L_word, 5, (some .int), RL, tableOf [(0, 10, 13, 13), (0, 10, 17, 15), (0, 10, 21, 21)], rmD 4 3)
def f_L_word (x1 : Int32) (x2 : Int32) (v : go_V) : Option go_R := bd (f_S_word x1 x2 v) (fun r_1 => br (Nat.beq r_1.1 0) (gd (go_in (0 : Int32) 1) (ln (u2 r_1.2.2.2 119 (0 : Int32).toNatClampNeg r_1.2.1) (fun v_5 => some (0, (0 : Int32), 0, v_5)))) (br (Nat.beq r_1.1 1) (some (0, (1 : Int32), 0, r_1.2.2.2)) (br (Nat.beq r_1.1 2) (some (0, (2 : Int32), 0, r_1.2.2.2)) (br (Nat.beq r_1.1 3) (some (0, (3 : Int32), 0, r_1.2.2.2)) (none)))))
set_option maxHeartbeats 4000000 in
set_option maxRecDepth 100000 in
theorem Ca_L_word {l : Launch} {G : go_G} {ad : Nat → Nat} (hl : l.stackTraces = false) {r : go_R} {x1 : Int32} {x2 : Int32} {v : go_V} (h : f_L_word x1 x2 v = some r) : Ca l G y_L_word (.codeWith y_L_word c_L_word 5 (some .int) [(0, 10, 13, 13), (0, 10, 17, 15), (0, 10, 21, 21)] :: go_TT) (rmD 4 3) 1 ad [.ref (ad (0)), .int x1, .int x2, .ref (ad (119))] v r := by
  unfold f_L_word at h
  refine go_bodyX (own := RL) (by decide) rfl (Nat.le_of_ble_eq_true rfl) ?_
  show Go l G M_L_word go_Ex0 (go_E G ad 1 r 3 18) ad v [(0, .ref (ad (0))), (1, .int x1), (2, .int x2), (3, .ref (ad (119)))] 0 [] 0 0
  refine go_aload_n (d_L_word 0 rfl) rfl rfl ?_
  refine go_iconst (x := (0 : Int32)) (d_L_word 1 rfl) (by decide) ?_
  refine go_aload_n (d_L_word 2 rfl) rfl rfl ?_
  refine go_iload_n (d_L_word 3 rfl) rfl rfl ?_
  refine go_iload_n (d_L_word 4 rfl) rfl rfl ?_
  obtain ⟨r_1, o_2, h⟩ := bd_some h
  rcases br_some h with ⟨z_3, h⟩ | ⟨z_3, h⟩
  · refine go_cV (As := [.int x1, .int x2]) (rest := [.int ((0 : Int32)), .ref (ad (119))]) (st2 := [.int (r_1.2.1), .int ((0 : Int32)), .ref (ad (119))]) (c2 := 3) (s2 := 18) rfl rfl rfl rfl (Ca_S_word hl o_2)  (d_L_word 5 rfl) cw_L_40 ⟨w_404, w_405⟩ rfl (by decide) rfl ⟨by decide, by decide⟩ rfl (Nat.le_of_ble_eq_true rfl) ⟨by decide, by decide⟩ (fun _ => ?_) (fun q => absurd (Nat.eq_of_beq_eq_true z_3) q)
    refine go_i2l (d_L_word 8 rfl) ?_
    obtain ⟨g_4, h⟩ := gd_some h
    obtain ⟨v_5, ev_5, h⟩ := ln_some h
    refine go_last (y := r_1.2.1) (d_L_word 9 rfl) rfl g_4 ?_
    rw [← ev_5]
    refine go_goto (tgt := 25) (d_L_word 10 rfl) (by decide) ?_
    refine go_iconst (x := (0 : Int32)) (d_L_word 25 rfl) (by decide) ?_
    exact go_iret (d_L_word 26 rfl) rfl rfl (Option.some.inj h) (by decide) (by decide)
  rcases br_some h with ⟨z_7, h⟩ | ⟨z_7, h⟩
  · refine go_cV (As := [.int x1, .int x2]) (rest := [.int ((0 : Int32)), .ref (ad (119))]) (st2 := [.int (r_1.2.1), .int ((0 : Int32)), .ref (ad (119))]) (c2 := 3) (s2 := 18) rfl rfl rfl rfl (Ca_S_word hl o_2)  (d_L_word 5 rfl) cw_L_40 ⟨w_404, w_405⟩ rfl (by decide) rfl ⟨by decide, by decide⟩ rfl (Nat.le_of_ble_eq_true rfl) ⟨by decide, by decide⟩ (fun q => absurd q (Nat.ne_of_beq_eq_false z_3)) (fun _ => ?_)
    rw [Nat.eq_of_beq_eq_true z_7]
    refine gx_catch [] ⟨0, 10, 13, 13⟩ [⟨0, 10, 17, 15⟩, ⟨0, 10, 21, 21⟩] rfl (fun y hy => nomatch hy) rfl (by decide) w_182 w_193 (fun q_6 => ?_)
    refine go_astore (lv' := [(0, .ref (ad (0))), (1, .int x1), (2, .int x2), (3, .ref (ad (119))), (4, .ref q_6)]) (d_L_word 13 rfl) (by decide) rfl ?_
    refine go_iconst (x := (1 : Int32)) (d_L_word 15 rfl) (by decide) ?_
    exact go_iret (d_L_word 16 rfl) rfl rfl (Option.some.inj h) (by decide) (by decide)
  rcases br_some h with ⟨z_9, h⟩ | ⟨z_9, h⟩
  · refine go_cV (As := [.int x1, .int x2]) (rest := [.int ((0 : Int32)), .ref (ad (119))]) (st2 := [.int (r_1.2.1), .int ((0 : Int32)), .ref (ad (119))]) (c2 := 3) (s2 := 18) rfl rfl rfl rfl (Ca_S_word hl o_2)  (d_L_word 5 rfl) cw_L_40 ⟨w_404, w_405⟩ rfl (by decide) rfl ⟨by decide, by decide⟩ rfl (Nat.le_of_ble_eq_true rfl) ⟨by decide, by decide⟩ (fun q => absurd q (Nat.ne_of_beq_eq_false z_3)) (fun _ => ?_)
    rw [Nat.eq_of_beq_eq_true z_9]
    refine gx_catch [⟨0, 10, 13, 13⟩] ⟨0, 10, 17, 15⟩ [⟨0, 10, 21, 21⟩] rfl (fun y hy => by
      rcases (by simpa using hy : y = (⟨0, 10, 13, 13⟩ : ExceptionTableEntry)) with rfl
      · exact Or.inr ⟨by decide, _, w_182, by decide +kernel⟩) rfl (by decide) w_183 w_269 (fun q_8 => ?_)
    refine go_astore (lv' := [(0, .ref (ad (0))), (1, .int x1), (2, .int x2), (3, .ref (ad (119))), (4, .ref q_8)]) (d_L_word 17 rfl) (by decide) rfl ?_
    refine go_iconst (x := (2 : Int32)) (d_L_word 19 rfl) (by decide) ?_
    exact go_iret (d_L_word 20 rfl) rfl rfl (Option.some.inj h) (by decide) (by decide)
  rcases br_some h with ⟨z_11, h⟩ | ⟨z_11, h⟩
  · refine go_cV (As := [.int x1, .int x2]) (rest := [.int ((0 : Int32)), .ref (ad (119))]) (st2 := [.int (r_1.2.1), .int ((0 : Int32)), .ref (ad (119))]) (c2 := 3) (s2 := 18) rfl rfl rfl rfl (Ca_S_word hl o_2)  (d_L_word 5 rfl) cw_L_40 ⟨w_404, w_405⟩ rfl (by decide) rfl ⟨by decide, by decide⟩ rfl (Nat.le_of_ble_eq_true rfl) ⟨by decide, by decide⟩ (fun q => absurd q (Nat.ne_of_beq_eq_false z_3)) (fun _ => ?_)
    rw [Nat.eq_of_beq_eq_true z_11]
    refine gx_catch [⟨0, 10, 13, 13⟩, ⟨0, 10, 17, 15⟩] ⟨0, 10, 21, 21⟩ [] rfl (fun y hy => by
      rcases (by simpa using hy : y = (⟨0, 10, 13, 13⟩ : ExceptionTableEntry) ∨ y = (⟨0, 10, 17, 15⟩ : ExceptionTableEntry)) with rfl | rfl
      · exact Or.inr ⟨by decide, _, w_182, by decide +kernel⟩
      · exact Or.inr ⟨by decide, _, w_183, by decide +kernel⟩) rfl (by decide) w_286 w_297 (fun q_10 => ?_)
    refine go_astore (lv' := [(0, .ref (ad (0))), (1, .int x1), (2, .int x2), (3, .ref (ad (119))), (4, .ref q_10)]) (d_L_word 21 rfl) (by decide) rfl ?_
    refine go_iconst (x := (3 : Int32)) (d_L_word 23 rfl) (by decide) ?_
    exact go_iret (d_L_word 24 rfl) rfl rfl (Option.some.inj h) (by decide) (by decide)
  cases h
abbrev M_L_hurt : go_M := (c_L_hurt, 5, (some .int), RL, tableOf [(0, 10, 13, 13), (0, 10, 17, 15), (0, 10, 21, 21)], rmD 4 3)
def f_L_hurt (x1 : Int32) (x2 : Int32) (v : go_V) : Option go_R := bd (f_S_hurt x1 x2 v) (fun r_1 => br (Nat.beq r_1.1 0) (gd (go_in (0 : Int32) 1) (ln (u2 r_1.2.2.2 119 (0 : Int32).toNatClampNeg r_1.2.1) (fun v_5 => some (0, (0 : Int32), 0, v_5)))) (br (Nat.beq r_1.1 1) (some (0, (1 : Int32), 0, r_1.2.2.2)) (br (Nat.beq r_1.1 2) (some (0, (2 : Int32), 0, r_1.2.2.2)) (br (Nat.beq r_1.1 3) (some (0, (3 : Int32), 0, r_1.2.2.2)) (none)))))
set_option maxHeartbeats 4000000 in
set_option maxRecDepth 100000 in
theorem Ca_L_hurt {l : Launch} {G : go_G} {ad : Nat → Nat} (hl : l.stackTraces = false) {r : go_R} {x1 : Int32} {x2 : Int32} {v : go_V} (h : f_L_hurt x1 x2 v = some r) : Ca l G y_L_hurt (.codeWith y_L_hurt c_L_hurt 5 (some .int) [(0, 10, 13, 13), (0, 10, 17, 15), (0, 10, 21, 21)] :: go_TT) (rmD 4 3) 1 ad [.ref (ad (0)), .int x1, .int x2, .ref (ad (119))] v r := by
  unfold f_L_hurt at h
  refine go_bodyX (own := RL) (by decide) rfl (Nat.le_of_ble_eq_true rfl) ?_
  show Go l G M_L_hurt go_Ex0 (go_E G ad 1 r 3 18) ad v [(0, .ref (ad (0))), (1, .int x1), (2, .int x2), (3, .ref (ad (119)))] 0 [] 0 0
  refine go_aload_n (d_L_hurt 0 rfl) rfl rfl ?_
  refine go_iconst (x := (0 : Int32)) (d_L_hurt 1 rfl) (by decide) ?_
  refine go_aload_n (d_L_hurt 2 rfl) rfl rfl ?_
  refine go_iload_n (d_L_hurt 3 rfl) rfl rfl ?_
  refine go_iload_n (d_L_hurt 4 rfl) rfl rfl ?_
  obtain ⟨r_1, o_2, h⟩ := bd_some h
  rcases br_some h with ⟨z_3, h⟩ | ⟨z_3, h⟩
  · refine go_cV (As := [.int x1, .int x2]) (rest := [.int ((0 : Int32)), .ref (ad (119))]) (st2 := [.int (r_1.2.1), .int ((0 : Int32)), .ref (ad (119))]) (c2 := 3) (s2 := 18) rfl rfl rfl rfl (Ca_S_hurt hl o_2)  (d_L_hurt 5 rfl) cw_L_44 ⟨w_423, w_424⟩ rfl (by decide) rfl ⟨by decide, by decide⟩ rfl (Nat.le_of_ble_eq_true rfl) ⟨by decide, by decide⟩ (fun _ => ?_) (fun q => absurd (Nat.eq_of_beq_eq_true z_3) q)
    refine go_i2l (d_L_hurt 8 rfl) ?_
    obtain ⟨g_4, h⟩ := gd_some h
    obtain ⟨v_5, ev_5, h⟩ := ln_some h
    refine go_last (y := r_1.2.1) (d_L_hurt 9 rfl) rfl g_4 ?_
    rw [← ev_5]
    refine go_goto (tgt := 25) (d_L_hurt 10 rfl) (by decide) ?_
    refine go_iconst (x := (0 : Int32)) (d_L_hurt 25 rfl) (by decide) ?_
    exact go_iret (d_L_hurt 26 rfl) rfl rfl (Option.some.inj h) (by decide) (by decide)
  rcases br_some h with ⟨z_7, h⟩ | ⟨z_7, h⟩
  · refine go_cV (As := [.int x1, .int x2]) (rest := [.int ((0 : Int32)), .ref (ad (119))]) (st2 := [.int (r_1.2.1), .int ((0 : Int32)), .ref (ad (119))]) (c2 := 3) (s2 := 18) rfl rfl rfl rfl (Ca_S_hurt hl o_2)  (d_L_hurt 5 rfl) cw_L_44 ⟨w_423, w_424⟩ rfl (by decide) rfl ⟨by decide, by decide⟩ rfl (Nat.le_of_ble_eq_true rfl) ⟨by decide, by decide⟩ (fun q => absurd q (Nat.ne_of_beq_eq_false z_3)) (fun _ => ?_)
    rw [Nat.eq_of_beq_eq_true z_7]
    refine gx_catch [] ⟨0, 10, 13, 13⟩ [⟨0, 10, 17, 15⟩, ⟨0, 10, 21, 21⟩] rfl (fun y hy => nomatch hy) rfl (by decide) w_182 w_193 (fun q_6 => ?_)
    refine go_astore (lv' := [(0, .ref (ad (0))), (1, .int x1), (2, .int x2), (3, .ref (ad (119))), (4, .ref q_6)]) (d_L_hurt 13 rfl) (by decide) rfl ?_
    refine go_iconst (x := (1 : Int32)) (d_L_hurt 15 rfl) (by decide) ?_
    exact go_iret (d_L_hurt 16 rfl) rfl rfl (Option.some.inj h) (by decide) (by decide)
  rcases br_some h with ⟨z_9, h⟩ | ⟨z_9, h⟩
  · refine go_cV (As := [.int x1, .int x2]) (rest := [.int ((0 : Int32)), .ref (ad (119))]) (st2 := [.int (r_1.2.1), .int ((0 : Int32)), .ref (ad (119))]) (c2 := 3) (s2 := 18) rfl rfl rfl rfl (Ca_S_hurt hl o_2)  (d_L_hurt 5 rfl) cw_L_44 ⟨w_423, w_424⟩ rfl (by decide) rfl ⟨by decide, by decide⟩ rfl (Nat.le_of_ble_eq_true rfl) ⟨by decide, by decide⟩ (fun q => absurd q (Nat.ne_of_beq_eq_false z_3)) (fun _ => ?_)
    rw [Nat.eq_of_beq_eq_true z_9]
    refine gx_catch [⟨0, 10, 13, 13⟩] ⟨0, 10, 17, 15⟩ [⟨0, 10, 21, 21⟩] rfl (fun y hy => by
      rcases (by simpa using hy : y = (⟨0, 10, 13, 13⟩ : ExceptionTableEntry)) with rfl
      · exact Or.inr ⟨by decide, _, w_182, by decide +kernel⟩) rfl (by decide) w_183 w_269 (fun q_8 => ?_)
    refine go_astore (lv' := [(0, .ref (ad (0))), (1, .int x1), (2, .int x2), (3, .ref (ad (119))), (4, .ref q_8)]) (d_L_hurt 17 rfl) (by decide) rfl ?_
    refine go_iconst (x := (2 : Int32)) (d_L_hurt 19 rfl) (by decide) ?_
    exact go_iret (d_L_hurt 20 rfl) rfl rfl (Option.some.inj h) (by decide) (by decide)
  rcases br_some h with ⟨z_11, h⟩ | ⟨z_11, h⟩
  · refine go_cV (As := [.int x1, .int x2]) (rest := [.int ((0 : Int32)), .ref (ad (119))]) (st2 := [.int (r_1.2.1), .int ((0 : Int32)), .ref (ad (119))]) (c2 := 3) (s2 := 18) rfl rfl rfl rfl (Ca_S_hurt hl o_2)  (d_L_hurt 5 rfl) cw_L_44 ⟨w_423, w_424⟩ rfl (by decide) rfl ⟨by decide, by decide⟩ rfl (Nat.le_of_ble_eq_true rfl) ⟨by decide, by decide⟩ (fun q => absurd q (Nat.ne_of_beq_eq_false z_3)) (fun _ => ?_)
    rw [Nat.eq_of_beq_eq_true z_11]
    refine gx_catch [⟨0, 10, 13, 13⟩, ⟨0, 10, 17, 15⟩] ⟨0, 10, 21, 21⟩ [] rfl (fun y hy => by
      rcases (by simpa using hy : y = (⟨0, 10, 13, 13⟩ : ExceptionTableEntry) ∨ y = (⟨0, 10, 17, 15⟩ : ExceptionTableEntry)) with rfl | rfl
      · exact Or.inr ⟨by decide, _, w_182, by decide +kernel⟩
      · exact Or.inr ⟨by decide, _, w_183, by decide +kernel⟩) rfl (by decide) w_286 w_297 (fun q_10 => ?_)
    refine go_astore (lv' := [(0, .ref (ad (0))), (1, .int x1), (2, .int x2), (3, .ref (ad (119))), (4, .ref q_10)]) (d_L_hurt 21 rfl) (by decide) rfl ?_
    refine go_iconst (x := (3 : Int32)) (d_L_hurt 23 rfl) (by decide) ?_
    exact go_iret (d_L_hurt 24 rfl) rfl rfl (Option.some.inj h) (by decide) (by decide)
  cases h
abbrev M_L_ask : go_M := (c_L_ask, 5, (some .int), RL, tableOf [(0, 10, 13, 13), (0, 10, 17, 15), (0, 10, 21, 21)], rmD 4 3)
def f_L_ask (x1 : Int32) (x2 : Int32) (v : go_V) : Option go_R := bd (f_S_ask x1 x2 v) (fun r_1 => br (Nat.beq r_1.1 0) (gd (go_in (0 : Int32) 1) (ln (u2 r_1.2.2.2 119 (0 : Int32).toNatClampNeg r_1.2.1) (fun v_5 => some (0, (0 : Int32), 0, v_5)))) (br (Nat.beq r_1.1 1) (some (0, (1 : Int32), 0, r_1.2.2.2)) (br (Nat.beq r_1.1 2) (some (0, (2 : Int32), 0, r_1.2.2.2)) (br (Nat.beq r_1.1 3) (some (0, (3 : Int32), 0, r_1.2.2.2)) (none)))))
set_option maxHeartbeats 4000000 in
set_option maxRecDepth 100000 in
theorem Ca_L_ask {l : Launch} {G : go_G} {ad : Nat → Nat} (hl : l.stackTraces = false) {r : go_R} {x1 : Int32} {x2 : Int32} {v : go_V} (h : f_L_ask x1 x2 v = some r) : Ca l G y_L_ask (.codeWith y_L_ask c_L_ask 5 (some .int) [(0, 10, 13, 13), (0, 10, 17, 15), (0, 10, 21, 21)] :: go_TT) (rmD 4 3) 1 ad [.ref (ad (0)), .int x1, .int x2, .ref (ad (119))] v r := by
  unfold f_L_ask at h
  refine go_bodyX (own := RL) (by decide) rfl (Nat.le_of_ble_eq_true rfl) ?_
  show Go l G M_L_ask go_Ex0 (go_E G ad 1 r 3 18) ad v [(0, .ref (ad (0))), (1, .int x1), (2, .int x2), (3, .ref (ad (119)))] 0 [] 0 0
  refine go_aload_n (d_L_ask 0 rfl) rfl rfl ?_
  refine go_iconst (x := (0 : Int32)) (d_L_ask 1 rfl) (by decide) ?_
  refine go_aload_n (d_L_ask 2 rfl) rfl rfl ?_
  refine go_iload_n (d_L_ask 3 rfl) rfl rfl ?_
  refine go_iload_n (d_L_ask 4 rfl) rfl rfl ?_
  obtain ⟨r_1, o_2, h⟩ := bd_some h
  rcases br_some h with ⟨z_3, h⟩ | ⟨z_3, h⟩
  · refine go_cV (As := [.int x1, .int x2]) (rest := [.int ((0 : Int32)), .ref (ad (119))]) (st2 := [.int (r_1.2.1), .int ((0 : Int32)), .ref (ad (119))]) (c2 := 3) (s2 := 18) rfl rfl rfl rfl (Ca_S_ask hl o_2)  (d_L_ask 5 rfl) cw_L_47 ⟨w_430, w_431⟩ rfl (by decide) rfl ⟨by decide, by decide⟩ rfl (Nat.le_of_ble_eq_true rfl) ⟨by decide, by decide⟩ (fun _ => ?_) (fun q => absurd (Nat.eq_of_beq_eq_true z_3) q)
    refine go_i2l (d_L_ask 8 rfl) ?_
    obtain ⟨g_4, h⟩ := gd_some h
    obtain ⟨v_5, ev_5, h⟩ := ln_some h
    refine go_last (y := r_1.2.1) (d_L_ask 9 rfl) rfl g_4 ?_
    rw [← ev_5]
    refine go_goto (tgt := 25) (d_L_ask 10 rfl) (by decide) ?_
    refine go_iconst (x := (0 : Int32)) (d_L_ask 25 rfl) (by decide) ?_
    exact go_iret (d_L_ask 26 rfl) rfl rfl (Option.some.inj h) (by decide) (by decide)
  rcases br_some h with ⟨z_7, h⟩ | ⟨z_7, h⟩
  · refine go_cV (As := [.int x1, .int x2]) (rest := [.int ((0 : Int32)), .ref (ad (119))]) (st2 := [.int (r_1.2.1), .int ((0 : Int32)), .ref (ad (119))]) (c2 := 3) (s2 := 18) rfl rfl rfl rfl (Ca_S_ask hl o_2)  (d_L_ask 5 rfl) cw_L_47 ⟨w_430, w_431⟩ rfl (by decide) rfl ⟨by decide, by decide⟩ rfl (Nat.le_of_ble_eq_true rfl) ⟨by decide, by decide⟩ (fun q => absurd q (Nat.ne_of_beq_eq_false z_3)) (fun _ => ?_)
    rw [Nat.eq_of_beq_eq_true z_7]
    refine gx_catch [] ⟨0, 10, 13, 13⟩ [⟨0, 10, 17, 15⟩, ⟨0, 10, 21, 21⟩] rfl (fun y hy => nomatch hy) rfl (by decide) w_182 w_193 (fun q_6 => ?_)
    refine go_astore (lv' := [(0, .ref (ad (0))), (1, .int x1), (2, .int x2), (3, .ref (ad (119))), (4, .ref q_6)]) (d_L_ask 13 rfl) (by decide) rfl ?_
    refine go_iconst (x := (1 : Int32)) (d_L_ask 15 rfl) (by decide) ?_
    exact go_iret (d_L_ask 16 rfl) rfl rfl (Option.some.inj h) (by decide) (by decide)
  rcases br_some h with ⟨z_9, h⟩ | ⟨z_9, h⟩
  · refine go_cV (As := [.int x1, .int x2]) (rest := [.int ((0 : Int32)), .ref (ad (119))]) (st2 := [.int (r_1.2.1), .int ((0 : Int32)), .ref (ad (119))]) (c2 := 3) (s2 := 18) rfl rfl rfl rfl (Ca_S_ask hl o_2)  (d_L_ask 5 rfl) cw_L_47 ⟨w_430, w_431⟩ rfl (by decide) rfl ⟨by decide, by decide⟩ rfl (Nat.le_of_ble_eq_true rfl) ⟨by decide, by decide⟩ (fun q => absurd q (Nat.ne_of_beq_eq_false z_3)) (fun _ => ?_)
    rw [Nat.eq_of_beq_eq_true z_9]
    refine gx_catch [⟨0, 10, 13, 13⟩] ⟨0, 10, 17, 15⟩ [⟨0, 10, 21, 21⟩] rfl (fun y hy => by
      rcases (by simpa using hy : y = (⟨0, 10, 13, 13⟩ : ExceptionTableEntry)) with rfl
      · exact Or.inr ⟨by decide, _, w_182, by decide +kernel⟩) rfl (by decide) w_183 w_269 (fun q_8 => ?_)
    refine go_astore (lv' := [(0, .ref (ad (0))), (1, .int x1), (2, .int x2), (3, .ref (ad (119))), (4, .ref q_8)]) (d_L_ask 17 rfl) (by decide) rfl ?_
    refine go_iconst (x := (2 : Int32)) (d_L_ask 19 rfl) (by decide) ?_
    exact go_iret (d_L_ask 20 rfl) rfl rfl (Option.some.inj h) (by decide) (by decide)
  rcases br_some h with ⟨z_11, h⟩ | ⟨z_11, h⟩
  · refine go_cV (As := [.int x1, .int x2]) (rest := [.int ((0 : Int32)), .ref (ad (119))]) (st2 := [.int (r_1.2.1), .int ((0 : Int32)), .ref (ad (119))]) (c2 := 3) (s2 := 18) rfl rfl rfl rfl (Ca_S_ask hl o_2)  (d_L_ask 5 rfl) cw_L_47 ⟨w_430, w_431⟩ rfl (by decide) rfl ⟨by decide, by decide⟩ rfl (Nat.le_of_ble_eq_true rfl) ⟨by decide, by decide⟩ (fun q => absurd q (Nat.ne_of_beq_eq_false z_3)) (fun _ => ?_)
    rw [Nat.eq_of_beq_eq_true z_11]
    refine gx_catch [⟨0, 10, 13, 13⟩, ⟨0, 10, 17, 15⟩] ⟨0, 10, 21, 21⟩ [] rfl (fun y hy => by
      rcases (by simpa using hy : y = (⟨0, 10, 13, 13⟩ : ExceptionTableEntry) ∨ y = (⟨0, 10, 17, 15⟩ : ExceptionTableEntry)) with rfl | rfl
      · exact Or.inr ⟨by decide, _, w_182, by decide +kernel⟩
      · exact Or.inr ⟨by decide, _, w_183, by decide +kernel⟩) rfl (by decide) w_286 w_297 (fun q_10 => ?_)
    refine go_astore (lv' := [(0, .ref (ad (0))), (1, .int x1), (2, .int x2), (3, .ref (ad (119))), (4, .ref q_10)]) (d_L_ask 21 rfl) (by decide) rfl ?_
    refine go_iconst (x := (3 : Int32)) (d_L_ask 23 rfl) (by decide) ?_
    exact go_iret (d_L_ask 24 rfl) rfl rfl (Option.some.inj h) (by decide) (by decide)
  cases h
abbrev M_L_tell : go_M := (c_L_tell, 3, (some .int), RL, tableOf [(0, 5, 8, 13), (0, 5, 11, 21)], rmD 2 2)
def f_L_tell (x1 : Int32) (v : go_V) : Option go_R := bd (f_S_tell x1 v) (fun r_1 => br (Nat.beq r_1.1 0) (some (0, (0 : Int32), 0, r_1.2.2.2)) (br (Nat.beq r_1.1 1) (some (0, (1 : Int32), 0, r_1.2.2.2)) (br (Nat.beq r_1.1 3) (some (0, (2 : Int32), 0, r_1.2.2.2)) (none))))
set_option maxHeartbeats 4000000 in
set_option maxRecDepth 100000 in
theorem Ca_L_tell {l : Launch} {G : go_G} {ad : Nat → Nat} (hl : l.stackTraces = false) {r : go_R} {x1 : Int32} {v : go_V} (h : f_L_tell x1 v = some r) : Ca l G y_L_tell (.codeWith y_L_tell c_L_tell 3 (some .int) [(0, 5, 8, 13), (0, 5, 11, 21)] :: go_TT) (rmD 2 2) 1 ad [.ref (ad (0)), .int x1] v r := by
  unfold f_L_tell at h
  refine go_bodyX (own := RL) (by decide) rfl (Nat.le_of_ble_eq_true rfl) ?_
  show Go l G M_L_tell go_Ex0 (go_E G ad 1 r 2 12) ad v [(0, .ref (ad (0))), (1, .int x1)] 0 [] 0 0
  refine go_aload_n (d_L_tell 0 rfl) rfl rfl ?_
  refine go_iload_n (d_L_tell 1 rfl) rfl rfl ?_
  obtain ⟨r_1, o_2, h⟩ := bd_some h
  rcases br_some h with ⟨z_3, h⟩ | ⟨z_3, h⟩
  · refine go_cV (As := [.int x1]) (rest := []) (st2 := []) (c2 := 2) (s2 := 12) rfl rfl rfl rfl (Ca_S_tell hl o_2)  (d_L_tell 2 rfl) cw_L_50 ⟨w_437, w_438⟩ rfl (by decide) rfl ⟨by decide, by decide⟩ rfl (Nat.le_of_ble_eq_true rfl) ⟨by decide, by decide⟩ (fun _ => ?_) (fun q => absurd (Nat.eq_of_beq_eq_true z_3) q)
    refine go_goto (tgt := 14) (d_L_tell 5 rfl) (by decide) ?_
    refine go_iconst (x := (0 : Int32)) (d_L_tell 14 rfl) (by decide) ?_
    exact go_iret (d_L_tell 15 rfl) rfl rfl (Option.some.inj h) (by decide) (by decide)
  rcases br_some h with ⟨z_5, h⟩ | ⟨z_5, h⟩
  · refine go_cV (As := [.int x1]) (rest := []) (st2 := []) (c2 := 2) (s2 := 12) rfl rfl rfl rfl (Ca_S_tell hl o_2)  (d_L_tell 2 rfl) cw_L_50 ⟨w_437, w_438⟩ rfl (by decide) rfl ⟨by decide, by decide⟩ rfl (Nat.le_of_ble_eq_true rfl) ⟨by decide, by decide⟩ (fun q => absurd q (Nat.ne_of_beq_eq_false z_3)) (fun _ => ?_)
    rw [Nat.eq_of_beq_eq_true z_5]
    refine gx_catch [] ⟨0, 5, 8, 13⟩ [⟨0, 5, 11, 21⟩] rfl (fun y hy => nomatch hy) rfl (by decide) w_182 w_193 (fun q_4 => ?_)
    refine go_astore_n (lv' := [(0, .ref (ad (0))), (1, .int x1), (2, .ref q_4)]) (d_L_tell 8 rfl) rfl (by decide) rfl ?_
    refine go_iconst (x := (1 : Int32)) (d_L_tell 9 rfl) (by decide) ?_
    exact go_iret (d_L_tell 10 rfl) rfl rfl (Option.some.inj h) (by decide) (by decide)
  rcases br_some h with ⟨z_7, h⟩ | ⟨z_7, h⟩
  · refine go_cV (As := [.int x1]) (rest := []) (st2 := []) (c2 := 2) (s2 := 12) rfl rfl rfl rfl (Ca_S_tell hl o_2)  (d_L_tell 2 rfl) cw_L_50 ⟨w_437, w_438⟩ rfl (by decide) rfl ⟨by decide, by decide⟩ rfl (Nat.le_of_ble_eq_true rfl) ⟨by decide, by decide⟩ (fun q => absurd q (Nat.ne_of_beq_eq_false z_3)) (fun _ => ?_)
    rw [Nat.eq_of_beq_eq_true z_7]
    refine gx_catch [⟨0, 5, 8, 13⟩] ⟨0, 5, 11, 21⟩ [] rfl (fun y hy => by
      rcases (by simpa using hy : y = (⟨0, 5, 8, 13⟩ : ExceptionTableEntry)) with rfl
      · exact Or.inr ⟨by decide, _, w_182, by decide +kernel⟩) rfl (by decide) w_286 w_297 (fun q_6 => ?_)
    refine go_astore_n (lv' := [(0, .ref (ad (0))), (1, .int x1), (2, .ref q_6)]) (d_L_tell 11 rfl) rfl (by decide) rfl ?_
    refine go_iconst (x := (2 : Int32)) (d_L_tell 12 rfl) (by decide) ?_
    exact go_iret (d_L_tell 13 rfl) rfl rfl (Option.some.inj h) (by decide) (by decide)
  cases h
abbrev M_L_calm : go_M := (c_L_calm, 5, (some .int), RL, tableOf [(0, 10, 13, 13), (0, 10, 17, 21)], rmD 4 4)
def f_L_calm (x1 : Int32) (x2 : Int32) (v : go_V) : Option go_R := bd (f_S_calm x1 x2 v) (fun r_1 => br (Nat.beq r_1.1 0) (gd (go_in (0 : Int32) 1) (ln (u2 r_1.2.2.2 119 (0 : Int32).toNatClampNeg r_1.2.1) (fun v_5 => some (0, (0 : Int32), 0, v_5)))) (br (Nat.beq r_1.1 1) (some (0, (1 : Int32), 0, r_1.2.2.2)) (br (Nat.beq r_1.1 3) (some (0, (2 : Int32), 0, r_1.2.2.2)) (none))))
set_option maxHeartbeats 4000000 in
set_option maxRecDepth 100000 in
theorem Ca_L_calm {l : Launch} {G : go_G} {ad : Nat → Nat} (hl : l.stackTraces = false) {r : go_R} {x1 : Int32} {x2 : Int32} {v : go_V} (h : f_L_calm x1 x2 v = some r) : Ca l G y_L_calm (.codeWith y_L_calm c_L_calm 5 (some .int) [(0, 10, 13, 13), (0, 10, 17, 21)] :: go_TT) (rmD 4 4) 1 ad [.ref (ad (0)), .int x1, .int x2, .ref (ad (119))] v r := by
  unfold f_L_calm at h
  refine go_bodyX (own := RL) (by decide) rfl (Nat.le_of_ble_eq_true rfl) ?_
  show Go l G M_L_calm go_Ex0 (go_E G ad 1 r 4 24) ad v [(0, .ref (ad (0))), (1, .int x1), (2, .int x2), (3, .ref (ad (119)))] 0 [] 0 0
  refine go_aload_n (d_L_calm 0 rfl) rfl rfl ?_
  refine go_iconst (x := (0 : Int32)) (d_L_calm 1 rfl) (by decide) ?_
  refine go_aload_n (d_L_calm 2 rfl) rfl rfl ?_
  refine go_iload_n (d_L_calm 3 rfl) rfl rfl ?_
  refine go_iload_n (d_L_calm 4 rfl) rfl rfl ?_
  obtain ⟨r_1, o_2, h⟩ := bd_some h
  rcases br_some h with ⟨z_3, h⟩ | ⟨z_3, h⟩
  · refine go_cV (As := [.int x1, .int x2]) (rest := [.int ((0 : Int32)), .ref (ad (119))]) (st2 := [.int (r_1.2.1), .int ((0 : Int32)), .ref (ad (119))]) (c2 := 4) (s2 := 24) rfl rfl rfl rfl (Ca_S_calm hl o_2)  (d_L_calm 5 rfl) cw_L_53 ⟨w_444, w_445⟩ rfl (by decide) rfl ⟨by decide, by decide⟩ rfl (Nat.le_of_ble_eq_true rfl) ⟨by decide, by decide⟩ (fun _ => ?_) (fun q => absurd (Nat.eq_of_beq_eq_true z_3) q)
    refine go_i2l (d_L_calm 8 rfl) ?_
    obtain ⟨g_4, h⟩ := gd_some h
    obtain ⟨v_5, ev_5, h⟩ := ln_some h
    refine go_last (y := r_1.2.1) (d_L_calm 9 rfl) rfl g_4 ?_
    rw [← ev_5]
    refine go_goto (tgt := 21) (d_L_calm 10 rfl) (by decide) ?_
    refine go_iconst (x := (0 : Int32)) (d_L_calm 21 rfl) (by decide) ?_
    exact go_iret (d_L_calm 22 rfl) rfl rfl (Option.some.inj h) (by decide) (by decide)
  rcases br_some h with ⟨z_7, h⟩ | ⟨z_7, h⟩
  · refine go_cV (As := [.int x1, .int x2]) (rest := [.int ((0 : Int32)), .ref (ad (119))]) (st2 := [.int (r_1.2.1), .int ((0 : Int32)), .ref (ad (119))]) (c2 := 4) (s2 := 24) rfl rfl rfl rfl (Ca_S_calm hl o_2)  (d_L_calm 5 rfl) cw_L_53 ⟨w_444, w_445⟩ rfl (by decide) rfl ⟨by decide, by decide⟩ rfl (Nat.le_of_ble_eq_true rfl) ⟨by decide, by decide⟩ (fun q => absurd q (Nat.ne_of_beq_eq_false z_3)) (fun _ => ?_)
    rw [Nat.eq_of_beq_eq_true z_7]
    refine gx_catch [] ⟨0, 10, 13, 13⟩ [⟨0, 10, 17, 21⟩] rfl (fun y hy => nomatch hy) rfl (by decide) w_182 w_193 (fun q_6 => ?_)
    refine go_astore (lv' := [(0, .ref (ad (0))), (1, .int x1), (2, .int x2), (3, .ref (ad (119))), (4, .ref q_6)]) (d_L_calm 13 rfl) (by decide) rfl ?_
    refine go_iconst (x := (1 : Int32)) (d_L_calm 15 rfl) (by decide) ?_
    exact go_iret (d_L_calm 16 rfl) rfl rfl (Option.some.inj h) (by decide) (by decide)
  rcases br_some h with ⟨z_9, h⟩ | ⟨z_9, h⟩
  · refine go_cV (As := [.int x1, .int x2]) (rest := [.int ((0 : Int32)), .ref (ad (119))]) (st2 := [.int (r_1.2.1), .int ((0 : Int32)), .ref (ad (119))]) (c2 := 4) (s2 := 24) rfl rfl rfl rfl (Ca_S_calm hl o_2)  (d_L_calm 5 rfl) cw_L_53 ⟨w_444, w_445⟩ rfl (by decide) rfl ⟨by decide, by decide⟩ rfl (Nat.le_of_ble_eq_true rfl) ⟨by decide, by decide⟩ (fun q => absurd q (Nat.ne_of_beq_eq_false z_3)) (fun _ => ?_)
    rw [Nat.eq_of_beq_eq_true z_9]
    refine gx_catch [⟨0, 10, 13, 13⟩] ⟨0, 10, 17, 21⟩ [] rfl (fun y hy => by
      rcases (by simpa using hy : y = (⟨0, 10, 13, 13⟩ : ExceptionTableEntry)) with rfl
      · exact Or.inr ⟨by decide, _, w_182, by decide +kernel⟩) rfl (by decide) w_286 w_297 (fun q_8 => ?_)
    refine go_astore (lv' := [(0, .ref (ad (0))), (1, .int x1), (2, .int x2), (3, .ref (ad (119))), (4, .ref q_8)]) (d_L_calm 17 rfl) (by decide) rfl ?_
    refine go_iconst (x := (2 : Int32)) (d_L_calm 19 rfl) (by decide) ?_
    exact go_iret (d_L_calm 20 rfl) rfl rfl (Option.some.inj h) (by decide) (by decide)
  cases h
abbrev M_L_unit : go_M := (c_L_unit, 4, (some .int), RL, tableOf [(0, 9, 12, 13), (0, 9, 15, 27)], rmD 2 2)
def f_L_unit (x1 : Int32) (v : go_V) : Option go_R := bd (f_S_unit x1 v) (fun r_1 => br (Nat.beq r_1.1 0) (gd (go_in (0 : Int32) 1) (ln (u2 r_1.2.2.2 119 (0 : Int32).toNatClampNeg r_1.2.1) (fun v_5 => some (0, (0 : Int32), 0, v_5)))) (br (Nat.beq r_1.1 1) (some (0, (1 : Int32), 0, r_1.2.2.2)) (br (Nat.beq r_1.1 4) (some (0, (2 : Int32), 0, r_1.2.2.2)) (none))))
set_option maxHeartbeats 4000000 in
set_option maxRecDepth 100000 in
theorem Ca_L_unit {l : Launch} {G : go_G} {ad : Nat → Nat} (hl : l.stackTraces = false) {r : go_R} {x1 : Int32} {v : go_V} (h : f_L_unit x1 v = some r) : Ca l G y_L_unit (.codeWith y_L_unit c_L_unit 4 (some .int) [(0, 9, 12, 13), (0, 9, 15, 27)] :: go_TT) (rmD 2 2) 1 ad [.ref (ad (0)), .int x1, .ref (ad (119))] v r := by
  unfold f_L_unit at h
  refine go_bodyX (own := RL) (by decide) rfl (Nat.le_of_ble_eq_true rfl) ?_
  show Go l G M_L_unit go_Ex0 (go_E G ad 1 r 2 12) ad v [(0, .ref (ad (0))), (1, .int x1), (2, .ref (ad (119)))] 0 [] 0 0
  refine go_aload_n (d_L_unit 0 rfl) rfl rfl ?_
  refine go_iconst (x := (0 : Int32)) (d_L_unit 1 rfl) (by decide) ?_
  refine go_aload_n (d_L_unit 2 rfl) rfl rfl ?_
  refine go_iload_n (d_L_unit 3 rfl) rfl rfl ?_
  obtain ⟨r_1, o_2, h⟩ := bd_some h
  rcases br_some h with ⟨z_3, h⟩ | ⟨z_3, h⟩
  · refine go_cV (As := [.int x1]) (rest := [.int ((0 : Int32)), .ref (ad (119))]) (st2 := [.int (r_1.2.1), .int ((0 : Int32)), .ref (ad (119))]) (c2 := 2) (s2 := 12) rfl rfl rfl rfl (Ca_S_unit hl o_2)  (d_L_unit 4 rfl) cw_L_56 ⟨w_475, w_476⟩ rfl (by decide) rfl ⟨by decide, by decide⟩ rfl (Nat.le_of_ble_eq_true rfl) ⟨by decide, by decide⟩ (fun _ => ?_) (fun q => absurd (Nat.eq_of_beq_eq_true z_3) q)
    refine go_i2l (d_L_unit 7 rfl) ?_
    obtain ⟨g_4, h⟩ := gd_some h
    obtain ⟨v_5, ev_5, h⟩ := ln_some h
    refine go_last (y := r_1.2.1) (d_L_unit 8 rfl) rfl g_4 ?_
    rw [← ev_5]
    refine go_goto (tgt := 18) (d_L_unit 9 rfl) (by decide) ?_
    refine go_iconst (x := (0 : Int32)) (d_L_unit 18 rfl) (by decide) ?_
    exact go_iret (d_L_unit 19 rfl) rfl rfl (Option.some.inj h) (by decide) (by decide)
  rcases br_some h with ⟨z_7, h⟩ | ⟨z_7, h⟩
  · refine go_cV (As := [.int x1]) (rest := [.int ((0 : Int32)), .ref (ad (119))]) (st2 := [.int (r_1.2.1), .int ((0 : Int32)), .ref (ad (119))]) (c2 := 2) (s2 := 12) rfl rfl rfl rfl (Ca_S_unit hl o_2)  (d_L_unit 4 rfl) cw_L_56 ⟨w_475, w_476⟩ rfl (by decide) rfl ⟨by decide, by decide⟩ rfl (Nat.le_of_ble_eq_true rfl) ⟨by decide, by decide⟩ (fun q => absurd q (Nat.ne_of_beq_eq_false z_3)) (fun _ => ?_)
    rw [Nat.eq_of_beq_eq_true z_7]
    refine gx_catch [] ⟨0, 9, 12, 13⟩ [⟨0, 9, 15, 27⟩] rfl (fun y hy => nomatch hy) rfl (by decide) w_182 w_193 (fun q_6 => ?_)
    refine go_astore_n (lv' := [(0, .ref (ad (0))), (1, .int x1), (2, .ref (ad (119))), (3, .ref q_6)]) (d_L_unit 12 rfl) rfl (by decide) rfl ?_
    refine go_iconst (x := (1 : Int32)) (d_L_unit 13 rfl) (by decide) ?_
    exact go_iret (d_L_unit 14 rfl) rfl rfl (Option.some.inj h) (by decide) (by decide)
  rcases br_some h with ⟨z_9, h⟩ | ⟨z_9, h⟩
  · refine go_cV (As := [.int x1]) (rest := [.int ((0 : Int32)), .ref (ad (119))]) (st2 := [.int (r_1.2.1), .int ((0 : Int32)), .ref (ad (119))]) (c2 := 2) (s2 := 12) rfl rfl rfl rfl (Ca_S_unit hl o_2)  (d_L_unit 4 rfl) cw_L_56 ⟨w_475, w_476⟩ rfl (by decide) rfl ⟨by decide, by decide⟩ rfl (Nat.le_of_ble_eq_true rfl) ⟨by decide, by decide⟩ (fun q => absurd q (Nat.ne_of_beq_eq_false z_3)) (fun _ => ?_)
    rw [Nat.eq_of_beq_eq_true z_9]
    refine gx_catch [⟨0, 9, 12, 13⟩] ⟨0, 9, 15, 27⟩ [] rfl (fun y hy => by
      rcases (by simpa using hy : y = (⟨0, 9, 12, 13⟩ : ExceptionTableEntry)) with rfl
      · exact Or.inr ⟨by decide, _, w_182, by decide +kernel⟩) rfl (by decide) w_314 w_327 (fun q_8 => ?_)
    refine go_astore_n (lv' := [(0, .ref (ad (0))), (1, .int x1), (2, .ref (ad (119))), (3, .ref q_8)]) (d_L_unit 15 rfl) rfl (by decide) rfl ?_
    refine go_iconst (x := (2 : Int32)) (d_L_unit 16 rfl) (by decide) ?_
    exact go_iret (d_L_unit 17 rfl) rfl rfl (Option.some.inj h) (by decide) (by decide)
  cases h
abbrev M_L_go : go_M := (c_L_go, 5, (some .int), RL, tableOf [(0, 7, 10, 13), (0, 7, 14, 15), (0, 7, 18, 21)], rmD 2 5)
def f_L_go (x1 : Int32) (x2 : Int32) (x3 : Int32) (v : go_V) : Option go_R := bd (f_S_go x1 x2 x3 v) (fun r_1 => br (Nat.beq r_1.1 0) (some (0, (0 : Int32), 0, r_1.2.2.2)) (br (Nat.beq r_1.1 1) (some (0, (1 : Int32), 0, r_1.2.2.2)) (br (Nat.beq r_1.1 2) (some (0, (2 : Int32), 0, r_1.2.2.2)) (br (Nat.beq r_1.1 3) (some (0, (3 : Int32), 0, r_1.2.2.2)) (none)))))
set_option maxHeartbeats 4000000 in
set_option maxRecDepth 100000 in
theorem Ca_L_go {l : Launch} {G : go_G} {ad : Nat → Nat} (hl : l.stackTraces = false) {r : go_R} {x1 : Int32} {x2 : Int32} {x3 : Int32} {v : go_V} (h : f_L_go x1 x2 x3 v = some r) : Ca l G y_L_go (.codeWith y_L_go c_L_go 5 (some .int) [(0, 7, 10, 13), (0, 7, 14, 15), (0, 7, 18, 21)] :: go_TT) (rmD 2 5) 1 ad [.ref (ad (0)), .int x1, .int x2, .int x3] v r := by
  unfold f_L_go at h
  refine go_bodyX (own := RL) (by decide) rfl (Nat.le_of_ble_eq_true rfl) ?_
  show Go l G M_L_go go_Ex0 (go_E G ad 1 r 5 30) ad v [(0, .ref (ad (0))), (1, .int x1), (2, .int x2), (3, .int x3)] 0 [] 0 0
  refine go_aload_n (d_L_go 0 rfl) rfl rfl ?_
  refine go_iload_n (d_L_go 1 rfl) rfl rfl ?_
  refine go_iload_n (d_L_go 2 rfl) rfl rfl ?_
  refine go_iload_n (d_L_go 3 rfl) rfl rfl ?_
  obtain ⟨r_1, o_2, h⟩ := bd_some h
  rcases br_some h with ⟨z_3, h⟩ | ⟨z_3, h⟩
  · refine go_cV (As := [.int x1, .int x2, .int x3]) (rest := []) (st2 := []) (c2 := 5) (s2 := 30) rfl rfl rfl rfl (Ca_S_go hl o_2)  (d_L_go 4 rfl) cw_L_59 ⟨w_483, w_484⟩ rfl (by decide) rfl ⟨by decide, by decide⟩ rfl (Nat.le_of_ble_eq_true rfl) ⟨by decide, by decide⟩ (fun _ => ?_) (fun q => absurd (Nat.eq_of_beq_eq_true z_3) q)
    refine go_goto (tgt := 22) (d_L_go 7 rfl) (by decide) ?_
    refine go_iconst (x := (0 : Int32)) (d_L_go 22 rfl) (by decide) ?_
    exact go_iret (d_L_go 23 rfl) rfl rfl (Option.some.inj h) (by decide) (by decide)
  rcases br_some h with ⟨z_5, h⟩ | ⟨z_5, h⟩
  · refine go_cV (As := [.int x1, .int x2, .int x3]) (rest := []) (st2 := []) (c2 := 5) (s2 := 30) rfl rfl rfl rfl (Ca_S_go hl o_2)  (d_L_go 4 rfl) cw_L_59 ⟨w_483, w_484⟩ rfl (by decide) rfl ⟨by decide, by decide⟩ rfl (Nat.le_of_ble_eq_true rfl) ⟨by decide, by decide⟩ (fun q => absurd q (Nat.ne_of_beq_eq_false z_3)) (fun _ => ?_)
    rw [Nat.eq_of_beq_eq_true z_5]
    refine gx_catch [] ⟨0, 7, 10, 13⟩ [⟨0, 7, 14, 15⟩, ⟨0, 7, 18, 21⟩] rfl (fun y hy => nomatch hy) rfl (by decide) w_182 w_193 (fun q_4 => ?_)
    refine go_astore (lv' := [(0, .ref (ad (0))), (1, .int x1), (2, .int x2), (3, .int x3), (4, .ref q_4)]) (d_L_go 10 rfl) (by decide) rfl ?_
    refine go_iconst (x := (1 : Int32)) (d_L_go 12 rfl) (by decide) ?_
    exact go_iret (d_L_go 13 rfl) rfl rfl (Option.some.inj h) (by decide) (by decide)
  rcases br_some h with ⟨z_7, h⟩ | ⟨z_7, h⟩
  · refine go_cV (As := [.int x1, .int x2, .int x3]) (rest := []) (st2 := []) (c2 := 5) (s2 := 30) rfl rfl rfl rfl (Ca_S_go hl o_2)  (d_L_go 4 rfl) cw_L_59 ⟨w_483, w_484⟩ rfl (by decide) rfl ⟨by decide, by decide⟩ rfl (Nat.le_of_ble_eq_true rfl) ⟨by decide, by decide⟩ (fun q => absurd q (Nat.ne_of_beq_eq_false z_3)) (fun _ => ?_)
    rw [Nat.eq_of_beq_eq_true z_7]
    refine gx_catch [⟨0, 7, 10, 13⟩] ⟨0, 7, 14, 15⟩ [⟨0, 7, 18, 21⟩] rfl (fun y hy => by
      rcases (by simpa using hy : y = (⟨0, 7, 10, 13⟩ : ExceptionTableEntry)) with rfl
      · exact Or.inr ⟨by decide, _, w_182, by decide +kernel⟩) rfl (by decide) w_183 w_269 (fun q_6 => ?_)
    refine go_astore (lv' := [(0, .ref (ad (0))), (1, .int x1), (2, .int x2), (3, .int x3), (4, .ref q_6)]) (d_L_go 14 rfl) (by decide) rfl ?_
    refine go_iconst (x := (2 : Int32)) (d_L_go 16 rfl) (by decide) ?_
    exact go_iret (d_L_go 17 rfl) rfl rfl (Option.some.inj h) (by decide) (by decide)
  rcases br_some h with ⟨z_9, h⟩ | ⟨z_9, h⟩
  · refine go_cV (As := [.int x1, .int x2, .int x3]) (rest := []) (st2 := []) (c2 := 5) (s2 := 30) rfl rfl rfl rfl (Ca_S_go hl o_2)  (d_L_go 4 rfl) cw_L_59 ⟨w_483, w_484⟩ rfl (by decide) rfl ⟨by decide, by decide⟩ rfl (Nat.le_of_ble_eq_true rfl) ⟨by decide, by decide⟩ (fun q => absurd q (Nat.ne_of_beq_eq_false z_3)) (fun _ => ?_)
    rw [Nat.eq_of_beq_eq_true z_9]
    refine gx_catch [⟨0, 7, 10, 13⟩, ⟨0, 7, 14, 15⟩] ⟨0, 7, 18, 21⟩ [] rfl (fun y hy => by
      rcases (by simpa using hy : y = (⟨0, 7, 10, 13⟩ : ExceptionTableEntry) ∨ y = (⟨0, 7, 14, 15⟩ : ExceptionTableEntry)) with rfl | rfl
      · exact Or.inr ⟨by decide, _, w_182, by decide +kernel⟩
      · exact Or.inr ⟨by decide, _, w_183, by decide +kernel⟩) rfl (by decide) w_286 w_297 (fun q_8 => ?_)
    refine go_astore (lv' := [(0, .ref (ad (0))), (1, .int x1), (2, .int x2), (3, .int x3), (4, .ref q_8)]) (d_L_go 18 rfl) (by decide) rfl ?_
    refine go_iconst (x := (3 : Int32)) (d_L_go 20 rfl) (by decide) ?_
    exact go_iret (d_L_go 21 rfl) rfl rfl (Option.some.inj h) (by decide) (by decide)
  cases h
abbrev M_L_arrive : go_M := (c_L_arrive, 3, (some .int), RL, tableOf [(0, 5, 8, 13), (0, 5, 11, 21)], rmD 2 2)
def f_L_arrive (x1 : Int32) (v : go_V) : Option go_R := bd (f_S_arrive x1 v) (fun r_1 => br (Nat.beq r_1.1 0) (some (0, (0 : Int32), 0, r_1.2.2.2)) (br (Nat.beq r_1.1 1) (some (0, (1 : Int32), 0, r_1.2.2.2)) (br (Nat.beq r_1.1 3) (some (0, (2 : Int32), 0, r_1.2.2.2)) (none))))
set_option maxHeartbeats 4000000 in
set_option maxRecDepth 100000 in
theorem Ca_L_arrive {l : Launch} {G : go_G} {ad : Nat → Nat} (hl : l.stackTraces = false) {r : go_R} {x1 : Int32} {v : go_V} (h : f_L_arrive x1 v = some r) : Ca l G y_L_arrive (.codeWith y_L_arrive c_L_arrive 3 (some .int) [(0, 5, 8, 13), (0, 5, 11, 21)] :: go_TT) (rmD 2 2) 1 ad [.ref (ad (0)), .int x1] v r := by
  unfold f_L_arrive at h
  refine go_bodyX (own := RL) (by decide) rfl (Nat.le_of_ble_eq_true rfl) ?_
  show Go l G M_L_arrive go_Ex0 (go_E G ad 1 r 2 12) ad v [(0, .ref (ad (0))), (1, .int x1)] 0 [] 0 0
  refine go_aload_n (d_L_arrive 0 rfl) rfl rfl ?_
  refine go_iload_n (d_L_arrive 1 rfl) rfl rfl ?_
  obtain ⟨r_1, o_2, h⟩ := bd_some h
  rcases br_some h with ⟨z_3, h⟩ | ⟨z_3, h⟩
  · refine go_cV (As := [.int x1]) (rest := []) (st2 := []) (c2 := 2) (s2 := 12) rfl rfl rfl rfl (Ca_S_arrive hl o_2)  (d_L_arrive 2 rfl) cw_L_62 ⟨w_497, w_498⟩ rfl (by decide) rfl ⟨by decide, by decide⟩ rfl (Nat.le_of_ble_eq_true rfl) ⟨by decide, by decide⟩ (fun _ => ?_) (fun q => absurd (Nat.eq_of_beq_eq_true z_3) q)
    refine go_goto (tgt := 14) (d_L_arrive 5 rfl) (by decide) ?_
    refine go_iconst (x := (0 : Int32)) (d_L_arrive 14 rfl) (by decide) ?_
    exact go_iret (d_L_arrive 15 rfl) rfl rfl (Option.some.inj h) (by decide) (by decide)
  rcases br_some h with ⟨z_5, h⟩ | ⟨z_5, h⟩
  · refine go_cV (As := [.int x1]) (rest := []) (st2 := []) (c2 := 2) (s2 := 12) rfl rfl rfl rfl (Ca_S_arrive hl o_2)  (d_L_arrive 2 rfl) cw_L_62 ⟨w_497, w_498⟩ rfl (by decide) rfl ⟨by decide, by decide⟩ rfl (Nat.le_of_ble_eq_true rfl) ⟨by decide, by decide⟩ (fun q => absurd q (Nat.ne_of_beq_eq_false z_3)) (fun _ => ?_)
    rw [Nat.eq_of_beq_eq_true z_5]
    refine gx_catch [] ⟨0, 5, 8, 13⟩ [⟨0, 5, 11, 21⟩] rfl (fun y hy => nomatch hy) rfl (by decide) w_182 w_193 (fun q_4 => ?_)
    refine go_astore_n (lv' := [(0, .ref (ad (0))), (1, .int x1), (2, .ref q_4)]) (d_L_arrive 8 rfl) rfl (by decide) rfl ?_
    refine go_iconst (x := (1 : Int32)) (d_L_arrive 9 rfl) (by decide) ?_
    exact go_iret (d_L_arrive 10 rfl) rfl rfl (Option.some.inj h) (by decide) (by decide)
  rcases br_some h with ⟨z_7, h⟩ | ⟨z_7, h⟩
  · refine go_cV (As := [.int x1]) (rest := []) (st2 := []) (c2 := 2) (s2 := 12) rfl rfl rfl rfl (Ca_S_arrive hl o_2)  (d_L_arrive 2 rfl) cw_L_62 ⟨w_497, w_498⟩ rfl (by decide) rfl ⟨by decide, by decide⟩ rfl (Nat.le_of_ble_eq_true rfl) ⟨by decide, by decide⟩ (fun q => absurd q (Nat.ne_of_beq_eq_false z_3)) (fun _ => ?_)
    rw [Nat.eq_of_beq_eq_true z_7]
    refine gx_catch [⟨0, 5, 8, 13⟩] ⟨0, 5, 11, 21⟩ [] rfl (fun y hy => by
      rcases (by simpa using hy : y = (⟨0, 5, 8, 13⟩ : ExceptionTableEntry)) with rfl
      · exact Or.inr ⟨by decide, _, w_182, by decide +kernel⟩) rfl (by decide) w_286 w_297 (fun q_6 => ?_)
    refine go_astore_n (lv' := [(0, .ref (ad (0))), (1, .int x1), (2, .ref q_6)]) (d_L_arrive 11 rfl) rfl (by decide) rfl ?_
    refine go_iconst (x := (2 : Int32)) (d_L_arrive 12 rfl) (by decide) ?_
    exact go_iret (d_L_arrive 13 rfl) rfl rfl (Option.some.inj h) (by decide) (by decide)
  cases h
abbrev M_L_needed : go_M := (c_L_needed, 5, (some .int), RL, tableOf [(0, 10, 13, 13), (0, 10, 17, 21)], rmD 3 3)
def f_L_needed (x1 : Int32) (x2 : Int32) (v : go_V) : Option go_R := bd (f_S_needed x1 x2 v) (fun r_1 => br (Nat.beq r_1.1 0) (gd (go_in (0 : Int32) 1) (ln (u2 r_1.2.2.2 119 (0 : Int32).toNatClampNeg r_1.2.1) (fun v_5 => some (0, (0 : Int32), 0, v_5)))) (br (Nat.beq r_1.1 1) (some (0, (1 : Int32), 0, r_1.2.2.2)) (br (Nat.beq r_1.1 3) (some (0, (2 : Int32), 0, r_1.2.2.2)) (none))))
set_option maxHeartbeats 4000000 in
set_option maxRecDepth 100000 in
theorem Ca_L_needed {l : Launch} {G : go_G} {ad : Nat → Nat} (hl : l.stackTraces = false) {r : go_R} {x1 : Int32} {x2 : Int32} {v : go_V} (h : f_L_needed x1 x2 v = some r) : Ca l G y_L_needed (.codeWith y_L_needed c_L_needed 5 (some .int) [(0, 10, 13, 13), (0, 10, 17, 21)] :: go_TT) (rmD 3 3) 1 ad [.ref (ad (0)), .int x1, .int x2, .ref (ad (119))] v r := by
  unfold f_L_needed at h
  refine go_bodyX (own := RL) (by decide) rfl (Nat.le_of_ble_eq_true rfl) ?_
  show Go l G M_L_needed go_Ex0 (go_E G ad 1 r 3 18) ad v [(0, .ref (ad (0))), (1, .int x1), (2, .int x2), (3, .ref (ad (119)))] 0 [] 0 0
  refine go_aload_n (d_L_needed 0 rfl) rfl rfl ?_
  refine go_iconst (x := (0 : Int32)) (d_L_needed 1 rfl) (by decide) ?_
  refine go_aload_n (d_L_needed 2 rfl) rfl rfl ?_
  refine go_iload_n (d_L_needed 3 rfl) rfl rfl ?_
  refine go_iload_n (d_L_needed 4 rfl) rfl rfl ?_
  obtain ⟨r_1, o_2, h⟩ := bd_some h
  rcases br_some h with ⟨z_3, h⟩ | ⟨z_3, h⟩
  · refine go_cV (As := [.int x1, .int x2]) (rest := [.int ((0 : Int32)), .ref (ad (119))]) (st2 := [.int (r_1.2.1), .int ((0 : Int32)), .ref (ad (119))]) (c2 := 3) (s2 := 18) rfl rfl rfl rfl (Ca_S_needed hl o_2)  (d_L_needed 5 rfl) cw_L_65 ⟨w_505, w_506⟩ rfl (by decide) rfl ⟨by decide, by decide⟩ rfl (Nat.le_of_ble_eq_true rfl) ⟨by decide, by decide⟩ (fun _ => ?_) (fun q => absurd (Nat.eq_of_beq_eq_true z_3) q)
    refine go_i2l (d_L_needed 8 rfl) ?_
    obtain ⟨g_4, h⟩ := gd_some h
    obtain ⟨v_5, ev_5, h⟩ := ln_some h
    refine go_last (y := r_1.2.1) (d_L_needed 9 rfl) rfl g_4 ?_
    rw [← ev_5]
    refine go_goto (tgt := 21) (d_L_needed 10 rfl) (by decide) ?_
    refine go_iconst (x := (0 : Int32)) (d_L_needed 21 rfl) (by decide) ?_
    exact go_iret (d_L_needed 22 rfl) rfl rfl (Option.some.inj h) (by decide) (by decide)
  rcases br_some h with ⟨z_7, h⟩ | ⟨z_7, h⟩
  · refine go_cV (As := [.int x1, .int x2]) (rest := [.int ((0 : Int32)), .ref (ad (119))]) (st2 := [.int (r_1.2.1), .int ((0 : Int32)), .ref (ad (119))]) (c2 := 3) (s2 := 18) rfl rfl rfl rfl (Ca_S_needed hl o_2)  (d_L_needed 5 rfl) cw_L_65 ⟨w_505, w_506⟩ rfl (by decide) rfl ⟨by decide, by decide⟩ rfl (Nat.le_of_ble_eq_true rfl) ⟨by decide, by decide⟩ (fun q => absurd q (Nat.ne_of_beq_eq_false z_3)) (fun _ => ?_)
    rw [Nat.eq_of_beq_eq_true z_7]
    refine gx_catch [] ⟨0, 10, 13, 13⟩ [⟨0, 10, 17, 21⟩] rfl (fun y hy => nomatch hy) rfl (by decide) w_182 w_193 (fun q_6 => ?_)
    refine go_astore (lv' := [(0, .ref (ad (0))), (1, .int x1), (2, .int x2), (3, .ref (ad (119))), (4, .ref q_6)]) (d_L_needed 13 rfl) (by decide) rfl ?_
    refine go_iconst (x := (1 : Int32)) (d_L_needed 15 rfl) (by decide) ?_
    exact go_iret (d_L_needed 16 rfl) rfl rfl (Option.some.inj h) (by decide) (by decide)
  rcases br_some h with ⟨z_9, h⟩ | ⟨z_9, h⟩
  · refine go_cV (As := [.int x1, .int x2]) (rest := [.int ((0 : Int32)), .ref (ad (119))]) (st2 := [.int (r_1.2.1), .int ((0 : Int32)), .ref (ad (119))]) (c2 := 3) (s2 := 18) rfl rfl rfl rfl (Ca_S_needed hl o_2)  (d_L_needed 5 rfl) cw_L_65 ⟨w_505, w_506⟩ rfl (by decide) rfl ⟨by decide, by decide⟩ rfl (Nat.le_of_ble_eq_true rfl) ⟨by decide, by decide⟩ (fun q => absurd q (Nat.ne_of_beq_eq_false z_3)) (fun _ => ?_)
    rw [Nat.eq_of_beq_eq_true z_9]
    refine gx_catch [⟨0, 10, 13, 13⟩] ⟨0, 10, 17, 21⟩ [] rfl (fun y hy => by
      rcases (by simpa using hy : y = (⟨0, 10, 13, 13⟩ : ExceptionTableEntry)) with rfl
      · exact Or.inr ⟨by decide, _, w_182, by decide +kernel⟩) rfl (by decide) w_286 w_297 (fun q_8 => ?_)
    refine go_astore (lv' := [(0, .ref (ad (0))), (1, .int x1), (2, .int x2), (3, .ref (ad (119))), (4, .ref q_8)]) (d_L_needed 17 rfl) (by decide) rfl ?_
    refine go_iconst (x := (2 : Int32)) (d_L_needed 19 rfl) (by decide) ?_
    exact go_iret (d_L_needed 20 rfl) rfl rfl (Option.some.inj h) (by decide) (by decide)
  cases h
abbrev M_L_incident : go_M := (c_L_incident, 5, (some .int), RL, tableOf [(0, 10, 13, 13)], rmD 2 2)
def f_L_incident (x1 : Int32) (x2 : Int32) (v : go_V) : Option go_R := bd (f_S_incident x1 x2 v) (fun r_1 => br (Nat.beq r_1.1 0) (gd (go_in (0 : Int32) 1) (ln (u2 r_1.2.2.2 119 (0 : Int32).toNatClampNeg r_1.2.1) (fun v_5 => some (0, (0 : Int32), 0, v_5)))) (br (Nat.beq r_1.1 1) (some (0, (1 : Int32), 0, r_1.2.2.2)) (none)))
set_option maxHeartbeats 4000000 in
set_option maxRecDepth 100000 in
theorem Ca_L_incident {l : Launch} {G : go_G} {ad : Nat → Nat} (hl : l.stackTraces = false) {r : go_R} {x1 : Int32} {x2 : Int32} {v : go_V} (h : f_L_incident x1 x2 v = some r) : Ca l G y_L_incident (.codeWith y_L_incident c_L_incident 5 (some .int) [(0, 10, 13, 13)] :: go_TT) (rmD 2 2) 1 ad [.ref (ad (0)), .int x1, .int x2, .ref (ad (119))] v r := by
  unfold f_L_incident at h
  refine go_bodyX (own := RL) (by decide) rfl (Nat.le_of_ble_eq_true rfl) ?_
  show Go l G M_L_incident go_Ex0 (go_E G ad 1 r 2 12) ad v [(0, .ref (ad (0))), (1, .int x1), (2, .int x2), (3, .ref (ad (119)))] 0 [] 0 0
  refine go_aload_n (d_L_incident 0 rfl) rfl rfl ?_
  refine go_iconst (x := (0 : Int32)) (d_L_incident 1 rfl) (by decide) ?_
  refine go_aload_n (d_L_incident 2 rfl) rfl rfl ?_
  refine go_iload_n (d_L_incident 3 rfl) rfl rfl ?_
  refine go_iload_n (d_L_incident 4 rfl) rfl rfl ?_
  obtain ⟨r_1, o_2, h⟩ := bd_some h
  rcases br_some h with ⟨z_3, h⟩ | ⟨z_3, h⟩
  · refine go_cV (As := [.int x1, .int x2]) (rest := [.int ((0 : Int32)), .ref (ad (119))]) (st2 := [.int (r_1.2.1), .int ((0 : Int32)), .ref (ad (119))]) (c2 := 2) (s2 := 12) rfl rfl rfl rfl (Ca_S_incident hl o_2)  (d_L_incident 5 rfl) cw_L_68 ⟨w_512, w_513⟩ rfl (by decide) rfl ⟨by decide, by decide⟩ rfl (Nat.le_of_ble_eq_true rfl) ⟨by decide, by decide⟩ (fun _ => ?_) (fun q => absurd (Nat.eq_of_beq_eq_true z_3) q)
    refine go_i2l (d_L_incident 8 rfl) ?_
    obtain ⟨g_4, h⟩ := gd_some h
    obtain ⟨v_5, ev_5, h⟩ := ln_some h
    refine go_last (y := r_1.2.1) (d_L_incident 9 rfl) rfl g_4 ?_
    rw [← ev_5]
    refine go_goto (tgt := 17) (d_L_incident 10 rfl) (by decide) ?_
    refine go_iconst (x := (0 : Int32)) (d_L_incident 17 rfl) (by decide) ?_
    exact go_iret (d_L_incident 18 rfl) rfl rfl (Option.some.inj h) (by decide) (by decide)
  rcases br_some h with ⟨z_7, h⟩ | ⟨z_7, h⟩
  · refine go_cV (As := [.int x1, .int x2]) (rest := [.int ((0 : Int32)), .ref (ad (119))]) (st2 := [.int (r_1.2.1), .int ((0 : Int32)), .ref (ad (119))]) (c2 := 2) (s2 := 12) rfl rfl rfl rfl (Ca_S_incident hl o_2)  (d_L_incident 5 rfl) cw_L_68 ⟨w_512, w_513⟩ rfl (by decide) rfl ⟨by decide, by decide⟩ rfl (Nat.le_of_ble_eq_true rfl) ⟨by decide, by decide⟩ (fun q => absurd q (Nat.ne_of_beq_eq_false z_3)) (fun _ => ?_)
    rw [Nat.eq_of_beq_eq_true z_7]
    refine gx_catch [] ⟨0, 10, 13, 13⟩ [] rfl (fun y hy => nomatch hy) rfl (by decide) w_182 w_193 (fun q_6 => ?_)
    refine go_astore (lv' := [(0, .ref (ad (0))), (1, .int x1), (2, .int x2), (3, .ref (ad (119))), (4, .ref q_6)]) (d_L_incident 13 rfl) (by decide) rfl ?_
    refine go_iconst (x := (1 : Int32)) (d_L_incident 15 rfl) (by decide) ?_
    exact go_iret (d_L_incident 16 rfl) rfl rfl (Option.some.inj h) (by decide) (by decide)
  cases h
abbrev M_L_unitAt : go_M := (c_L_unitAt, 5, (some .int), RL, tableOf [(0, 10, 13, 13)], rmD 2 2)
def f_L_unitAt (x1 : Int32) (x2 : Int32) (v : go_V) : Option go_R := bd (f_S_unitAt x1 x2 v) (fun r_1 => br (Nat.beq r_1.1 0) (gd (go_in (0 : Int32) 1) (ln (u2 r_1.2.2.2 119 (0 : Int32).toNatClampNeg r_1.2.1) (fun v_5 => some (0, (0 : Int32), 0, v_5)))) (br (Nat.beq r_1.1 1) (some (0, (1 : Int32), 0, r_1.2.2.2)) (none)))
set_option maxHeartbeats 4000000 in
set_option maxRecDepth 100000 in
theorem Ca_L_unitAt {l : Launch} {G : go_G} {ad : Nat → Nat} (hl : l.stackTraces = false) {r : go_R} {x1 : Int32} {x2 : Int32} {v : go_V} (h : f_L_unitAt x1 x2 v = some r) : Ca l G y_L_unitAt (.codeWith y_L_unitAt c_L_unitAt 5 (some .int) [(0, 10, 13, 13)] :: go_TT) (rmD 2 2) 1 ad [.ref (ad (0)), .int x1, .int x2, .ref (ad (119))] v r := by
  unfold f_L_unitAt at h
  refine go_bodyX (own := RL) (by decide) rfl (Nat.le_of_ble_eq_true rfl) ?_
  show Go l G M_L_unitAt go_Ex0 (go_E G ad 1 r 2 12) ad v [(0, .ref (ad (0))), (1, .int x1), (2, .int x2), (3, .ref (ad (119)))] 0 [] 0 0
  refine go_aload_n (d_L_unitAt 0 rfl) rfl rfl ?_
  refine go_iconst (x := (0 : Int32)) (d_L_unitAt 1 rfl) (by decide) ?_
  refine go_aload_n (d_L_unitAt 2 rfl) rfl rfl ?_
  refine go_iload_n (d_L_unitAt 3 rfl) rfl rfl ?_
  refine go_iload_n (d_L_unitAt 4 rfl) rfl rfl ?_
  obtain ⟨r_1, o_2, h⟩ := bd_some h
  rcases br_some h with ⟨z_3, h⟩ | ⟨z_3, h⟩
  · refine go_cV (As := [.int x1, .int x2]) (rest := [.int ((0 : Int32)), .ref (ad (119))]) (st2 := [.int (r_1.2.1), .int ((0 : Int32)), .ref (ad (119))]) (c2 := 2) (s2 := 12) rfl rfl rfl rfl (Ca_S_unitAt hl o_2)  (d_L_unitAt 5 rfl) cw_L_71 ⟨w_520, w_521⟩ rfl (by decide) rfl ⟨by decide, by decide⟩ rfl (Nat.le_of_ble_eq_true rfl) ⟨by decide, by decide⟩ (fun _ => ?_) (fun q => absurd (Nat.eq_of_beq_eq_true z_3) q)
    refine go_i2l (d_L_unitAt 8 rfl) ?_
    obtain ⟨g_4, h⟩ := gd_some h
    obtain ⟨v_5, ev_5, h⟩ := ln_some h
    refine go_last (y := r_1.2.1) (d_L_unitAt 9 rfl) rfl g_4 ?_
    rw [← ev_5]
    refine go_goto (tgt := 17) (d_L_unitAt 10 rfl) (by decide) ?_
    refine go_iconst (x := (0 : Int32)) (d_L_unitAt 17 rfl) (by decide) ?_
    exact go_iret (d_L_unitAt 18 rfl) rfl rfl (Option.some.inj h) (by decide) (by decide)
  rcases br_some h with ⟨z_7, h⟩ | ⟨z_7, h⟩
  · refine go_cV (As := [.int x1, .int x2]) (rest := [.int ((0 : Int32)), .ref (ad (119))]) (st2 := [.int (r_1.2.1), .int ((0 : Int32)), .ref (ad (119))]) (c2 := 2) (s2 := 12) rfl rfl rfl rfl (Ca_S_unitAt hl o_2)  (d_L_unitAt 5 rfl) cw_L_71 ⟨w_520, w_521⟩ rfl (by decide) rfl ⟨by decide, by decide⟩ rfl (Nat.le_of_ble_eq_true rfl) ⟨by decide, by decide⟩ (fun q => absurd q (Nat.ne_of_beq_eq_false z_3)) (fun _ => ?_)
    rw [Nat.eq_of_beq_eq_true z_7]
    refine gx_catch [] ⟨0, 10, 13, 13⟩ [] rfl (fun y hy => nomatch hy) rfl (by decide) w_182 w_193 (fun q_6 => ?_)
    refine go_astore (lv' := [(0, .ref (ad (0))), (1, .int x1), (2, .int x2), (3, .ref (ad (119))), (4, .ref q_6)]) (d_L_unitAt 13 rfl) (by decide) rfl ?_
    refine go_iconst (x := (1 : Int32)) (d_L_unitAt 15 rfl) (by decide) ?_
    exact go_iret (d_L_unitAt 16 rfl) rfl rfl (Option.some.inj h) (by decide) (by decide)
  cases h
abbrev M_L_acted : go_M := (c_L_acted, 4, (some .int), RL, tableOf [(0, 9, 12, 13)], rmD 1 1)
def f_L_acted (x1 : Int32) (v : go_V) : Option go_R := bd (f_S_acted x1 v) (fun r_1 => br (Nat.beq r_1.1 0) (gd (go_in (0 : Int32) 1) (ln (u2 r_1.2.2.2 119 (0 : Int32).toNatClampNeg r_1.2.1) (fun v_5 => some (0, (0 : Int32), 0, v_5)))) (br (Nat.beq r_1.1 1) (some (0, (1 : Int32), 0, r_1.2.2.2)) (none)))
set_option maxHeartbeats 4000000 in
set_option maxRecDepth 100000 in
theorem Ca_L_acted {l : Launch} {G : go_G} {ad : Nat → Nat} (hl : l.stackTraces = false) {r : go_R} {x1 : Int32} {v : go_V} (h : f_L_acted x1 v = some r) : Ca l G y_L_acted (.codeWith y_L_acted c_L_acted 4 (some .int) [(0, 9, 12, 13)] :: go_TT) (rmD 1 1) 1 ad [.ref (ad (0)), .int x1, .ref (ad (119))] v r := by
  unfold f_L_acted at h
  refine go_bodyX (own := RL) (by decide) rfl (Nat.le_of_ble_eq_true rfl) ?_
  show Go l G M_L_acted go_Ex0 (go_E G ad 1 r 1 6) ad v [(0, .ref (ad (0))), (1, .int x1), (2, .ref (ad (119)))] 0 [] 0 0
  refine go_aload_n (d_L_acted 0 rfl) rfl rfl ?_
  refine go_iconst (x := (0 : Int32)) (d_L_acted 1 rfl) (by decide) ?_
  refine go_aload_n (d_L_acted 2 rfl) rfl rfl ?_
  refine go_iload_n (d_L_acted 3 rfl) rfl rfl ?_
  obtain ⟨r_1, o_2, h⟩ := bd_some h
  rcases br_some h with ⟨z_3, h⟩ | ⟨z_3, h⟩
  · refine go_cV (As := [.int x1]) (rest := [.int ((0 : Int32)), .ref (ad (119))]) (st2 := [.int (r_1.2.1), .int ((0 : Int32)), .ref (ad (119))]) (c2 := 1) (s2 := 6) rfl rfl rfl rfl (Ca_S_acted hl o_2)  (d_L_acted 4 rfl) cw_L_74 ⟨w_528, w_529⟩ rfl (by decide) rfl ⟨by decide, by decide⟩ rfl (Nat.le_of_ble_eq_true rfl) ⟨by decide, by decide⟩ (fun _ => ?_) (fun q => absurd (Nat.eq_of_beq_eq_true z_3) q)
    refine go_i2l (d_L_acted 7 rfl) ?_
    obtain ⟨g_4, h⟩ := gd_some h
    obtain ⟨v_5, ev_5, h⟩ := ln_some h
    refine go_last (y := r_1.2.1) (d_L_acted 8 rfl) rfl g_4 ?_
    rw [← ev_5]
    refine go_goto (tgt := 15) (d_L_acted 9 rfl) (by decide) ?_
    refine go_iconst (x := (0 : Int32)) (d_L_acted 15 rfl) (by decide) ?_
    exact go_iret (d_L_acted 16 rfl) rfl rfl (Option.some.inj h) (by decide) (by decide)
  rcases br_some h with ⟨z_7, h⟩ | ⟨z_7, h⟩
  · refine go_cV (As := [.int x1]) (rest := [.int ((0 : Int32)), .ref (ad (119))]) (st2 := [.int (r_1.2.1), .int ((0 : Int32)), .ref (ad (119))]) (c2 := 1) (s2 := 6) rfl rfl rfl rfl (Ca_S_acted hl o_2)  (d_L_acted 4 rfl) cw_L_74 ⟨w_528, w_529⟩ rfl (by decide) rfl ⟨by decide, by decide⟩ rfl (Nat.le_of_ble_eq_true rfl) ⟨by decide, by decide⟩ (fun q => absurd q (Nat.ne_of_beq_eq_false z_3)) (fun _ => ?_)
    rw [Nat.eq_of_beq_eq_true z_7]
    refine gx_catch [] ⟨0, 9, 12, 13⟩ [] rfl (fun y hy => nomatch hy) rfl (by decide) w_182 w_193 (fun q_6 => ?_)
    refine go_astore_n (lv' := [(0, .ref (ad (0))), (1, .int x1), (2, .ref (ad (119))), (3, .ref q_6)]) (d_L_acted 12 rfl) rfl (by decide) rfl ?_
    refine go_iconst (x := (1 : Int32)) (d_L_acted 13 rfl) (by decide) ?_
    exact go_iret (d_L_acted 14 rfl) rfl rfl (Option.some.inj h) (by decide) (by decide)
  cases h
abbrev M_L_count : go_M := (c_L_count, 4, (some .int), RL, tableOf [(0, 9, 12, 13)], rmD 1 1)
def f_L_count (x1 : Int32) (v : go_V) : Option go_R := bd (f_S_count x1 v) (fun r_1 => br (Nat.beq r_1.1 0) (gd (go_in (0 : Int32) 1) (ln (u2 r_1.2.2.2 119 (0 : Int32).toNatClampNeg r_1.2.1) (fun v_5 => some (0, (0 : Int32), 0, v_5)))) (br (Nat.beq r_1.1 1) (some (0, (1 : Int32), 0, r_1.2.2.2)) (none)))
set_option maxHeartbeats 4000000 in
set_option maxRecDepth 100000 in
theorem Ca_L_count {l : Launch} {G : go_G} {ad : Nat → Nat} (hl : l.stackTraces = false) {r : go_R} {x1 : Int32} {v : go_V} (h : f_L_count x1 v = some r) : Ca l G y_L_count (.codeWith y_L_count c_L_count 4 (some .int) [(0, 9, 12, 13)] :: go_TT) (rmD 1 1) 1 ad [.ref (ad (0)), .int x1, .ref (ad (119))] v r := by
  unfold f_L_count at h
  refine go_bodyX (own := RL) (by decide) rfl (Nat.le_of_ble_eq_true rfl) ?_
  show Go l G M_L_count go_Ex0 (go_E G ad 1 r 1 6) ad v [(0, .ref (ad (0))), (1, .int x1), (2, .ref (ad (119)))] 0 [] 0 0
  refine go_aload_n (d_L_count 0 rfl) rfl rfl ?_
  refine go_iconst (x := (0 : Int32)) (d_L_count 1 rfl) (by decide) ?_
  refine go_aload_n (d_L_count 2 rfl) rfl rfl ?_
  refine go_iload_n (d_L_count 3 rfl) rfl rfl ?_
  obtain ⟨r_1, o_2, h⟩ := bd_some h
  rcases br_some h with ⟨z_3, h⟩ | ⟨z_3, h⟩
  · refine go_cV (As := [.int x1]) (rest := [.int ((0 : Int32)), .ref (ad (119))]) (st2 := [.int (r_1.2.1), .int ((0 : Int32)), .ref (ad (119))]) (c2 := 1) (s2 := 6) rfl rfl rfl rfl (Ca_S_count hl o_2)  (d_L_count 4 rfl) cw_L_77 ⟨w_536, w_537⟩ rfl (by decide) rfl ⟨by decide, by decide⟩ rfl (Nat.le_of_ble_eq_true rfl) ⟨by decide, by decide⟩ (fun _ => ?_) (fun q => absurd (Nat.eq_of_beq_eq_true z_3) q)
    refine go_i2l (d_L_count 7 rfl) ?_
    obtain ⟨g_4, h⟩ := gd_some h
    obtain ⟨v_5, ev_5, h⟩ := ln_some h
    refine go_last (y := r_1.2.1) (d_L_count 8 rfl) rfl g_4 ?_
    rw [← ev_5]
    refine go_goto (tgt := 15) (d_L_count 9 rfl) (by decide) ?_
    refine go_iconst (x := (0 : Int32)) (d_L_count 15 rfl) (by decide) ?_
    exact go_iret (d_L_count 16 rfl) rfl rfl (Option.some.inj h) (by decide) (by decide)
  rcases br_some h with ⟨z_7, h⟩ | ⟨z_7, h⟩
  · refine go_cV (As := [.int x1]) (rest := [.int ((0 : Int32)), .ref (ad (119))]) (st2 := [.int (r_1.2.1), .int ((0 : Int32)), .ref (ad (119))]) (c2 := 1) (s2 := 6) rfl rfl rfl rfl (Ca_S_count hl o_2)  (d_L_count 4 rfl) cw_L_77 ⟨w_536, w_537⟩ rfl (by decide) rfl ⟨by decide, by decide⟩ rfl (Nat.le_of_ble_eq_true rfl) ⟨by decide, by decide⟩ (fun q => absurd q (Nat.ne_of_beq_eq_false z_3)) (fun _ => ?_)
    rw [Nat.eq_of_beq_eq_true z_7]
    refine gx_catch [] ⟨0, 9, 12, 13⟩ [] rfl (fun y hy => nomatch hy) rfl (by decide) w_182 w_193 (fun q_6 => ?_)
    refine go_astore_n (lv' := [(0, .ref (ad (0))), (1, .int x1), (2, .ref (ad (119))), (3, .ref q_6)]) (d_L_count 12 rfl) rfl (by decide) rfl ?_
    refine go_iconst (x := (1 : Int32)) (d_L_count 13 rfl) (by decide) ?_
    exact go_iret (d_L_count 14 rfl) rfl rfl (Option.some.inj h) (by decide) (by decide)
  cases h
