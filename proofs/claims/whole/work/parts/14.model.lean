/-! read back by wip/whole/dec.py: a function a method, and the rows that tie them -/
abbrev M_M_thrown : go_M := (c_M_thrown, 1, (some .int), RM, [], rmD 0 0)
def f_M_thrown  (v : go_V) : Option go_R := some (0, (v 100 0), 0, v)
set_option maxHeartbeats 4000000 in
set_option maxRecDepth 100000 in
theorem Ca_M_thrown {l : Launch} {G : go_G} {ad : Nat → Nat} (hl : l.stackTraces = false) {r : go_R}  {v : go_V} (h : f_M_thrown  v = some r) : Ca l G y_M_thrown (.code y_M_thrown c_M_thrown 1 (some .int) :: go_TT) (rmD 0 0) 1 ad [.ref (ad (100))] v r := by
  unfold f_M_thrown at h
  refine go_body (own := RM) (by decide) rfl (Nat.le_of_ble_eq_true rfl) ?_
  show Go l G M_M_thrown go_Ex0 (go_E G ad 1 r 0 0) ad v [(0, .ref (ad (100)))] 0 [] 0 0
  refine go_aload_n (d_M_thrown 0 rfl) rfl rfl ?_
  refine go_getI (d_M_thrown 1 rfl) fl_M_66 rfl rfl ?_
  exact go_iret (d_M_thrown 4 rfl) rfl rfl (Option.some.inj h) (by decide) (by decide)
abbrev M_M_throwing : go_M := (c_M_throwing, 4, (some .boolean), RM, [], rmD 0 0)
def f_M_throwing_26  (x1 : Int32) (x2 : Int32) (x3 : Int32) (y1 : Int32) (v : go_V) : Option go_R := ln (u2 v 100 0 y1) (fun v_1 => br (decide ((v_1 100 0) ≤ 0)) (some (0, (0 : Int32), 0, v_1)) (some (0, (1 : Int32), 0, v_1)))
set_option maxHeartbeats 4000000 in
set_option maxRecDepth 100000 in
theorem b_M_throwing_26 {l : Launch} {G : go_G} {ad : Nat → Nat} (hl : l.stackTraces = false) {r : go_R}  (x1 : Int32) (x2 : Int32) (x3 : Int32) (y1 : Int32) (v : go_V) (h : f_M_throwing_26  x1 x2 x3 y1 v = some r) : Go l G M_M_throwing go_Ex0 (go_E G ad 1 r 0 0) ad v [(0, .ref (ad (100))), (1, .int x1), (2, .int x2), (3, .int x3)] 26 [.int y1, .ref (ad (100))] 0 0 := by
  unfold f_M_throwing_26 at h
  obtain ⟨v_1, ev_1, h⟩ := ln_some h
  refine go_putI (x := y1) (d_M_throwing 26 rfl) fp_M_66 rfl rfl rfl rfl ?_
  rw [← ev_1]
  refine go_aload_n (d_M_throwing 29 rfl) rfl rfl ?_
  refine go_getI (d_M_throwing 30 rfl) fl_M_66 rfl rfl ?_
  rcases br_some h with ⟨c_2, h⟩ | ⟨c_2, h⟩
  · refine go_if_le (tgt := 40) (d_M_throwing 33 rfl) (by decide) (fun _ => ?_) (fun q => absurd (of_decide_eq_true c_2) q)
    refine go_iconst (x := (0 : Int32)) (d_M_throwing 40 rfl) (by decide) ?_
    exact go_iret (d_M_throwing 41 rfl) rfl (by decide) (Option.some.inj h) (by decide) (by decide)
  · refine go_if_le (tgt := 40) (d_M_throwing 33 rfl) (by decide) (fun q => absurd q (of_decide_eq_false c_2)) (fun _ => ?_)
    refine go_iconst (x := (1 : Int32)) (d_M_throwing 36 rfl) (by decide) ?_
    refine go_goto (tgt := 41) (d_M_throwing 37 rfl) (by decide) ?_
    exact go_iret (d_M_throwing 41 rfl) rfl (by decide) (Option.some.inj h) (by decide) (by decide)
def f_M_throwing (x1 : Int32) (x2 : Int32) (x3 : Int32) (v : go_V) : Option go_R := br (decide (x1 = 0)) (br (decide (x2 = 0)) (br (decide (x3 = 0)) (f_M_throwing_26  (x1) (x2) (x3) ((0 : Int32)) (v)) (f_M_throwing_26  (x1) (x2) (x3) ((3 : Int32)) (v))) (f_M_throwing_26  (x1) (x2) (x3) ((2 : Int32)) (v))) (f_M_throwing_26  (x1) (x2) (x3) ((1 : Int32)) (v))
set_option maxHeartbeats 4000000 in
set_option maxRecDepth 100000 in
theorem Ca_M_throwing {l : Launch} {G : go_G} {ad : Nat → Nat} (hl : l.stackTraces = false) {r : go_R} {x1 : Int32} {x2 : Int32} {x3 : Int32} {v : go_V} (h : f_M_throwing x1 x2 x3 v = some r) : Ca l G y_M_throwing (.code y_M_throwing c_M_throwing 4 (some .boolean) :: go_TT) (rmD 0 0) 1 ad [.ref (ad (100)), .int x1, .int x2, .int x3] v r := by
  unfold f_M_throwing at h
  refine go_body (own := RM) (by decide) rfl (Nat.le_of_ble_eq_true rfl) ?_
  show Go l G M_M_throwing go_Ex0 (go_E G ad 1 r 0 0) ad v [(0, .ref (ad (100))), (1, .int x1), (2, .int x2), (3, .int x3)] 0 [] 0 0
  refine go_aload_n (d_M_throwing 0 rfl) rfl rfl ?_
  refine go_iload_n (d_M_throwing 1 rfl) rfl rfl ?_
  rcases br_some h with ⟨c_1, h⟩ | ⟨c_1, h⟩
  · refine go_if_eq (tgt := 9) (d_M_throwing 2 rfl) (by decide) (fun _ => ?_) (fun q => absurd (of_decide_eq_true c_1) q)
    refine go_iload_n (d_M_throwing 9 rfl) rfl rfl ?_
    rcases br_some h with ⟨c_2, h⟩ | ⟨c_2, h⟩
    · refine go_if_eq (tgt := 17) (d_M_throwing 10 rfl) (by decide) (fun _ => ?_) (fun q => absurd (of_decide_eq_true c_2) q)
      refine go_iload_n (d_M_throwing 17 rfl) rfl rfl ?_
      rcases br_some h with ⟨c_3, h⟩ | ⟨c_3, h⟩
      · refine go_if_eq (tgt := 25) (d_M_throwing 18 rfl) (by decide) (fun _ => ?_) (fun q => absurd (of_decide_eq_true c_3) q)
        refine go_iconst (x := (0 : Int32)) (d_M_throwing 25 rfl) (by decide) ?_
        exact b_M_throwing_26 hl  (x1) (x2) (x3) ((0 : Int32)) (v) h
      · refine go_if_eq (tgt := 25) (d_M_throwing 18 rfl) (by decide) (fun q => absurd q (of_decide_eq_false c_3)) (fun _ => ?_)
        refine go_iconst (x := (3 : Int32)) (d_M_throwing 21 rfl) (by decide) ?_
        refine go_goto (tgt := 26) (d_M_throwing 22 rfl) (by decide) ?_
        exact b_M_throwing_26 hl  (x1) (x2) (x3) ((3 : Int32)) (v) h
    · refine go_if_eq (tgt := 17) (d_M_throwing 10 rfl) (by decide) (fun q => absurd q (of_decide_eq_false c_2)) (fun _ => ?_)
      refine go_iconst (x := (2 : Int32)) (d_M_throwing 13 rfl) (by decide) ?_
      refine go_goto (tgt := 26) (d_M_throwing 14 rfl) (by decide) ?_
      exact b_M_throwing_26 hl  (x1) (x2) (x3) ((2 : Int32)) (v) h
  · refine go_if_eq (tgt := 9) (d_M_throwing 2 rfl) (by decide) (fun q => absurd q (of_decide_eq_false c_1)) (fun _ => ?_)
    refine go_iconst (x := (1 : Int32)) (d_M_throwing 5 rfl) (by decide) ?_
    refine go_goto (tgt := 26) (d_M_throwing 6 rfl) (by decide) ?_
    exact b_M_throwing_26 hl  (x1) (x2) (x3) ((1 : Int32)) (v) h
abbrev M_M_in : go_M := (c_M_in, 3, (some .boolean), RM, [], rmD 0 0)
def f_M_in_14  (x0 : Int32) (x1 : Int32) (x2 : Int32) (v : go_V) : Option go_R := some (0, (0 : Int32), 0, v)
set_option maxHeartbeats 4000000 in
set_option maxRecDepth 100000 in
theorem b_M_in_14 {l : Launch} {G : go_G} {ad : Nat → Nat} (hl : l.stackTraces = false) {r : go_R}  (x0 : Int32) (x1 : Int32) (x2 : Int32) (v : go_V) (h : f_M_in_14  x0 x1 x2 v = some r) : Go l G M_M_in go_Ex0 (go_E G ad 1 r 0 0) ad v [(0, .int x0), (1, .int x1), (2, .int x2)] 14 [] 0 0 := by
  unfold f_M_in_14 at h
  refine go_iconst (x := (0 : Int32)) (d_M_in 14 rfl) (by decide) ?_
  exact go_iret (d_M_in 15 rfl) rfl (by decide) (Option.some.inj h) (by decide) (by decide)
def f_M_in (x0 : Int32) (x1 : Int32) (x2 : Int32) (v : go_V) : Option go_R := br (decide (x0 < x1)) (f_M_in_14  (x0) (x1) (x2) (v)) (br (decide (x2 < x0)) (f_M_in_14  (x0) (x1) (x2) (v)) (some (0, (1 : Int32), 0, v)))
set_option maxHeartbeats 4000000 in
set_option maxRecDepth 100000 in
theorem Ca_M_in {l : Launch} {G : go_G} {ad : Nat → Nat} (hl : l.stackTraces = false) {r : go_R} {x0 : Int32} {x1 : Int32} {x2 : Int32} {v : go_V} (h : f_M_in x0 x1 x2 v = some r) : Ca l G y_M_in (.code y_M_in c_M_in 3 (some .boolean) :: go_TT) (rmD 0 0) 1 ad [.int x0, .int x1, .int x2] v r := by
  unfold f_M_in at h
  refine go_body (own := RM) (by decide) rfl (Nat.le_of_ble_eq_true rfl) ?_
  show Go l G M_M_in go_Ex0 (go_E G ad 1 r 0 0) ad v [(0, .int x0), (1, .int x1), (2, .int x2)] 0 [] 0 0
  refine go_iload_n (d_M_in 0 rfl) rfl rfl ?_
  refine go_iload_n (d_M_in 1 rfl) rfl rfl ?_
  rcases br_some h with ⟨c_1, h⟩ | ⟨c_1, h⟩
  · refine go_icmp_lt (tgt := 14) (d_M_in 2 rfl) (by decide) (fun _ => ?_) (fun q => absurd (of_decide_eq_true c_1) q)
    exact b_M_in_14 hl  (x0) (x1) (x2) (v) h
  · refine go_icmp_lt (tgt := 14) (d_M_in 2 rfl) (by decide) (fun q => absurd q (of_decide_eq_false c_1)) (fun _ => ?_)
    refine go_iload_n (d_M_in 5 rfl) rfl rfl ?_
    refine go_iload_n (d_M_in 6 rfl) rfl rfl ?_
    rcases br_some h with ⟨c_2, h⟩ | ⟨c_2, h⟩
    · refine go_icmp_gt (tgt := 14) (d_M_in 7 rfl) (by decide) (fun _ => ?_) (fun q => absurd (of_decide_eq_true c_2) q)
      exact b_M_in_14 hl  (x0) (x1) (x2) (v) h
    · refine go_icmp_gt (tgt := 14) (d_M_in 7 rfl) (by decide) (fun q => absurd q (of_decide_eq_false c_2)) (fun _ => ?_)
      refine go_iconst (x := (1 : Int32)) (d_M_in 10 rfl) (by decide) ?_
      refine go_goto (tgt := 15) (d_M_in 11 rfl) (by decide) ?_
      exact go_iret (d_M_in 15 rfl) rfl (by decide) (Option.some.inj h) (by decide) (by decide)
abbrev M_M_isIncident : go_M := (c_M_isIncident, 2, (some .boolean), RM, [], rmD 1 0)
def f_M_isIncident (x1 : Int32) (v : go_V) : Option go_R := bd (f_M_in x1 (0 : Int32) ((v 100 10) - (1 : Int32)) v) (fun r_1 => nt r_1 (gd (decide (r_1.2.1 &&& 1 = r_1.2.1)) (some (0, r_1.2.1, 0, r_1.2.2.2))))
set_option maxHeartbeats 4000000 in
set_option maxRecDepth 100000 in
theorem Ca_M_isIncident {l : Launch} {G : go_G} {ad : Nat → Nat} (hl : l.stackTraces = false) {r : go_R} {x1 : Int32} {v : go_V} (h : f_M_isIncident x1 v = some r) : Ca l G y_M_isIncident (.code y_M_isIncident c_M_isIncident 2 (some .boolean) :: go_TT) (rmD 1 0) 1 ad [.ref (ad (100)), .int x1] v r := by
  unfold f_M_isIncident at h
  refine go_body (own := RM) (by decide) rfl (Nat.le_of_ble_eq_true rfl) ?_
  show Go l G M_M_isIncident go_Ex0 (go_E G ad 1 r 0 0) ad v [(0, .ref (ad (100))), (1, .int x1)] 0 [] 0 0
  refine go_iload_n (d_M_isIncident 0 rfl) rfl rfl ?_
  refine go_iconst (x := (0 : Int32)) (d_M_isIncident 1 rfl) (by decide) ?_
  refine go_aload_n (d_M_isIncident 2 rfl) rfl rfl ?_
  refine go_getI (d_M_isIncident 3 rfl) fl_M_70 rfl rfl ?_
  refine go_iconst (x := (1 : Int32)) (d_M_isIncident 6 rfl) (by decide) ?_
  refine go_isub (d_M_isIncident 7 rfl) ?_
  obtain ⟨r_1, o_2, h⟩ := bd_some h
  obtain ⟨z_3, h⟩ := nt_some h
  refine go_cS (As := [.int x1, .int ((0 : Int32)), .int (((v 100 10) - (1 : Int32)))]) (rest := []) (st2 := [.int (r_1.2.1)]) (c2 := 0) (s2 := 0) rfl rfl rfl rfl (Ca_M_in hl o_2)  (d_M_isIncident 8 rfl) cw_M_73 w_639 ⟨by decide, by decide⟩ rfl (Nat.le_of_ble_eq_true rfl) ⟨by decide, by decide⟩ (fun _ => ?_) (fun q => absurd z_3 q)
  obtain ⟨g_4, h⟩ := gd_some h
  exact go_iret (d_M_isIncident 11 rfl) rfl (go_nb g_4) (Option.some.inj h) (by decide) (by decide)
abbrev M_M_isClosed : go_M := (c_M_isClosed, 2, (some .boolean), RM, [], rmD 2 0)
def f_M_isClosed_21  (x1 : Int32) (v : go_V) : Option go_R := some (0, (0 : Int32), 0, v)
set_option maxHeartbeats 4000000 in
set_option maxRecDepth 100000 in
theorem b_M_isClosed_21 {l : Launch} {G : go_G} {ad : Nat → Nat} (hl : l.stackTraces = false) {r : go_R}  (x1 : Int32) (v : go_V) (h : f_M_isClosed_21  x1 v = some r) : Go l G M_M_isClosed go_Ex0 (go_E G ad 1 r 0 0) ad v [(0, .ref (ad (100))), (1, .int x1)] 21 [] 0 0 := by
  unfold f_M_isClosed_21 at h
  refine go_iconst (x := (0 : Int32)) (d_M_isClosed 21 rfl) (by decide) ?_
  exact go_iret (d_M_isClosed 22 rfl) rfl (by decide) (Option.some.inj h) (by decide) (by decide)
def f_M_isClosed (x1 : Int32) (v : go_V) : Option go_R := bd (f_M_isIncident x1 v) (fun r_1 => nt r_1 (br (decide (r_1.2.1 = 0)) (f_M_isClosed_21  (x1) (r_1.2.2.2)) (gd (go_in x1 12) (br (decide ((r_1.2.2.2 107 x1.toNatClampNeg) = 0)) (some (0, (1 : Int32), 0, r_1.2.2.2)) (f_M_isClosed_21  (x1) (r_1.2.2.2))))))
set_option maxHeartbeats 4000000 in
set_option maxRecDepth 100000 in
theorem Ca_M_isClosed {l : Launch} {G : go_G} {ad : Nat → Nat} (hl : l.stackTraces = false) {r : go_R} {x1 : Int32} {v : go_V} (h : f_M_isClosed x1 v = some r) : Ca l G y_M_isClosed (.code y_M_isClosed c_M_isClosed 2 (some .boolean) :: go_TT) (rmD 2 0) 1 ad [.ref (ad (100)), .int x1] v r := by
  unfold f_M_isClosed at h
  refine go_body (own := RM) (by decide) rfl (Nat.le_of_ble_eq_true rfl) ?_
  show Go l G M_M_isClosed go_Ex0 (go_E G ad 1 r 0 0) ad v [(0, .ref (ad (100))), (1, .int x1)] 0 [] 0 0
  refine go_aload_n (d_M_isClosed 0 rfl) rfl rfl ?_
  refine go_iload_n (d_M_isClosed 1 rfl) rfl rfl ?_
  obtain ⟨r_1, o_2, h⟩ := bd_some h
  obtain ⟨z_3, h⟩ := nt_some h
  refine go_cV (As := [.int x1]) (rest := []) (st2 := [.int (r_1.2.1)]) (c2 := 0) (s2 := 0) rfl rfl rfl rfl (Ca_M_isIncident hl o_2)  (d_M_isClosed 2 rfl) cw_M_77 ⟨w_664, w_19⟩ rfl (by decide) rfl ⟨by decide, by decide⟩ rfl (Nat.le_of_ble_eq_true rfl) ⟨by decide, by decide⟩ (fun _ => ?_) (fun q => absurd z_3 q)
  rcases br_some h with ⟨c_4, h⟩ | ⟨c_4, h⟩
  · refine go_if_eq (tgt := 21) (d_M_isClosed 5 rfl) (by decide) (fun _ => ?_) (fun q => absurd (of_decide_eq_true c_4) q)
    exact b_M_isClosed_21 hl  (x1) (r_1.2.2.2) h
  · refine go_if_eq (tgt := 21) (d_M_isClosed 5 rfl) (by decide) (fun q => absurd q (of_decide_eq_false c_4)) (fun _ => ?_)
    refine go_aload_n (d_M_isClosed 8 rfl) rfl rfl ?_
    refine go_getR (d_M_isClosed 9 rfl) fl_M_28 rfl rfl ?_
    show Go _ _ _ _ _ _ _ _ _ (.ref (ad (107)) :: []) _ _
    refine go_iload_n (d_M_isClosed 12 rfl) rfl rfl ?_
    obtain ⟨g_5, h⟩ := gd_some h
    refine go_zald (d_M_isClosed 13 rfl) rfl g_5 ?_
    rcases br_some h with ⟨c_6, h⟩ | ⟨c_6, h⟩
    · refine go_if_ne (tgt := 21) (d_M_isClosed 14 rfl) (by decide) (fun q => absurd (of_decide_eq_true c_6) q) (fun _ => ?_)
      refine go_iconst (x := (1 : Int32)) (d_M_isClosed 17 rfl) (by decide) ?_
      refine go_goto (tgt := 22) (d_M_isClosed 18 rfl) (by decide) ?_
      exact go_iret (d_M_isClosed 22 rfl) rfl (by decide) (Option.some.inj h) (by decide) (by decide)
    · refine go_if_ne (tgt := 21) (d_M_isClosed 14 rfl) (by decide) (fun _ => ?_) (fun q => absurd q (of_decide_eq_false c_6))
      exact b_M_isClosed_21 hl  (x1) (r_1.2.2.2) h
abbrev M_M_isUnit : go_M := (c_M_isUnit, 2, (some .boolean), RM, [], rmD 1 0)
def f_M_isUnit (x1 : Int32) (v : go_V) : Option go_R := bd (f_M_in x1 (0 : Int32) ((v 100 19) - (1 : Int32)) v) (fun r_1 => nt r_1 (gd (decide (r_1.2.1 &&& 1 = r_1.2.1)) (some (0, r_1.2.1, 0, r_1.2.2.2))))
set_option maxHeartbeats 4000000 in
set_option maxRecDepth 100000 in
theorem Ca_M_isUnit {l : Launch} {G : go_G} {ad : Nat → Nat} (hl : l.stackTraces = false) {r : go_R} {x1 : Int32} {v : go_V} (h : f_M_isUnit x1 v = some r) : Ca l G y_M_isUnit (.code y_M_isUnit c_M_isUnit 2 (some .boolean) :: go_TT) (rmD 1 0) 1 ad [.ref (ad (100)), .int x1] v r := by
  unfold f_M_isUnit at h
  refine go_body (own := RM) (by decide) rfl (Nat.le_of_ble_eq_true rfl) ?_
  show Go l G M_M_isUnit go_Ex0 (go_E G ad 1 r 0 0) ad v [(0, .ref (ad (100))), (1, .int x1)] 0 [] 0 0
  refine go_iload_n (d_M_isUnit 0 rfl) rfl rfl ?_
  refine go_iconst (x := (0 : Int32)) (d_M_isUnit 1 rfl) (by decide) ?_
  refine go_aload_n (d_M_isUnit 2 rfl) rfl rfl ?_
  refine go_getI (d_M_isUnit 3 rfl) fl_M_81 rfl rfl ?_
  refine go_iconst (x := (1 : Int32)) (d_M_isUnit 6 rfl) (by decide) ?_
  refine go_isub (d_M_isUnit 7 rfl) ?_
  obtain ⟨r_1, o_2, h⟩ := bd_some h
  obtain ⟨z_3, h⟩ := nt_some h
  refine go_cS (As := [.int x1, .int ((0 : Int32)), .int (((v 100 19) - (1 : Int32)))]) (rest := []) (st2 := [.int (r_1.2.1)]) (c2 := 0) (s2 := 0) rfl rfl rfl rfl (Ca_M_in hl o_2)  (d_M_isUnit 8 rfl) cw_M_73 w_639 ⟨by decide, by decide⟩ rfl (Nat.le_of_ble_eq_true rfl) ⟨by decide, by decide⟩ (fun _ => ?_) (fun q => absurd z_3 q)
  obtain ⟨g_4, h⟩ := gd_some h
  exact go_iret (d_M_isUnit 11 rfl) rfl (go_nb g_4) (Option.some.inj h) (by decide) (by decide)
abbrev M_M_row : go_M := (c_M_row, 4, none, RM, [], rmD 1 0)
def f_M_row_41  (x1 : Int32) (x2 : Int32) (x3 : Int32) (y1 : Int32) (y2 : Int32) (v : go_V) : Option go_R := bd (f_M_throwing y1 y2 (0 : Int32) v) (fun r_1 => nt r_1 (br (decide (r_1.2.1 = 0)) (gd (go_in (((8 : Int32) * x1) + x2) 80) (ln (u2 r_1.2.2.2 101 (((8 : Int32) * x1) + x2).toNatClampNeg x3) (fun v_6 => some (0, 0, 0, v_6)))) (some (0, 0, 0, r_1.2.2.2))))
set_option maxHeartbeats 4000000 in
set_option maxRecDepth 100000 in
theorem b_M_row_41 {l : Launch} {G : go_G} {ad : Nat → Nat} (hl : l.stackTraces = false) {r : go_R}  (x1 : Int32) (x2 : Int32) (x3 : Int32) (y1 : Int32) (y2 : Int32) (v : go_V) (h : f_M_row_41  x1 x2 x3 y1 y2 v = some r) : Go l G M_M_row go_Ex0 (go_E G ad 0 r 0 0) ad v [(0, .ref (ad (100))), (1, .int x1), (2, .int x2), (3, .int x3)] 41 [.int y2, .int y1, .ref (ad (100))] 0 0 := by
  unfold f_M_row_41 at h
  refine go_iconst (x := (0 : Int32)) (d_M_row 41 rfl) (by decide) ?_
  obtain ⟨r_1, o_2, h⟩ := bd_some h
  obtain ⟨z_3, h⟩ := nt_some h
  refine go_cV (As := [.int y1, .int y2, .int ((0 : Int32))]) (rest := []) (st2 := [.int (r_1.2.1)]) (c2 := 0) (s2 := 0) rfl rfl rfl rfl (Ca_M_throwing hl o_2)  (d_M_row 42 rfl) cw_M_84 ⟨w_643, w_18⟩ rfl (by decide) rfl ⟨by decide, by decide⟩ rfl (Nat.le_of_ble_eq_true rfl) ⟨by decide, by decide⟩ (fun _ => ?_) (fun q => absurd z_3 q)
  rcases br_some h with ⟨c_4, h⟩ | ⟨c_4, h⟩
  · refine go_if_eq (tgt := 49) (d_M_row 45 rfl) (by decide) (fun _ => ?_) (fun q => absurd (of_decide_eq_true c_4) q)
    refine go_aload_n (d_M_row 49 rfl) rfl rfl ?_
    refine go_getR (d_M_row 50 rfl) fl_M_7 rfl rfl ?_
    show Go _ _ _ _ _ _ _ _ _ (.ref (ad (101)) :: []) _ _
    refine go_bipush (x := (8 : Int32)) (d_M_row 53 rfl) (by decide) ?_
    refine go_iload_n (d_M_row 55 rfl) rfl rfl ?_
    refine go_imul (d_M_row 56 rfl) ?_
    refine go_iload_n (d_M_row 57 rfl) rfl rfl ?_
    refine go_iadd (d_M_row 58 rfl) ?_
    refine go_iload_n (d_M_row 59 rfl) rfl rfl ?_
    obtain ⟨g_5, h⟩ := gd_some h
    obtain ⟨v_6, ev_6, h⟩ := ln_some h
    refine go_iast (y := x3) (d_M_row 60 rfl) rfl g_5 ?_
    rw [← ev_6]
    exact go_vret (d_M_row 61 rfl) rfl (Option.some.inj h) (by decide) (by decide)
  · refine go_if_eq (tgt := 49) (d_M_row 45 rfl) (by decide) (fun q => absurd q (of_decide_eq_false c_4)) (fun _ => ?_)
    exact go_vret (d_M_row 48 rfl) rfl (Option.some.inj h) (by decide) (by decide)
def f_M_row_26  (x1 : Int32) (x2 : Int32) (x3 : Int32) (y1 : Int32) (v : go_V) : Option go_R := bd (f_M_in x3 (0 : Int32) (30 : Int32) v) (fun r_1 => nt r_1 (br (decide (r_1.2.1 = 0)) (f_M_row_41  (x1) (x2) (x3) (y1) ((1 : Int32)) (r_1.2.2.2)) (f_M_row_41  (x1) (x2) (x3) (y1) ((0 : Int32)) (r_1.2.2.2))))
set_option maxHeartbeats 4000000 in
set_option maxRecDepth 100000 in
theorem b_M_row_26 {l : Launch} {G : go_G} {ad : Nat → Nat} (hl : l.stackTraces = false) {r : go_R}  (x1 : Int32) (x2 : Int32) (x3 : Int32) (y1 : Int32) (v : go_V) (h : f_M_row_26  x1 x2 x3 y1 v = some r) : Go l G M_M_row go_Ex0 (go_E G ad 0 r 0 0) ad v [(0, .ref (ad (100))), (1, .int x1), (2, .int x2), (3, .int x3)] 26 [.int y1, .ref (ad (100))] 0 0 := by
  unfold f_M_row_26 at h
  refine go_iload_n (d_M_row 26 rfl) rfl rfl ?_
  refine go_iconst (x := (0 : Int32)) (d_M_row 27 rfl) (by decide) ?_
  refine go_bipush (x := (30 : Int32)) (d_M_row 28 rfl) (by decide) ?_
  obtain ⟨r_1, o_2, h⟩ := bd_some h
  obtain ⟨z_3, h⟩ := nt_some h
  refine go_cS (As := [.int x3, .int ((0 : Int32)), .int ((30 : Int32))]) (rest := [.int y1, .ref (ad (100))]) (st2 := [.int (r_1.2.1), .int y1, .ref (ad (100))]) (c2 := 0) (s2 := 0) rfl rfl rfl rfl (Ca_M_in hl o_2)  (d_M_row 30 rfl) cw_M_73 w_639 ⟨by decide, by decide⟩ rfl (Nat.le_of_ble_eq_true rfl) ⟨by decide, by decide⟩ (fun _ => ?_) (fun q => absurd z_3 q)
  rcases br_some h with ⟨c_4, h⟩ | ⟨c_4, h⟩
  · refine go_if_ne (tgt := 40) (d_M_row 33 rfl) (by decide) (fun q => absurd (of_decide_eq_true c_4) q) (fun _ => ?_)
    refine go_iconst (x := (1 : Int32)) (d_M_row 36 rfl) (by decide) ?_
    refine go_goto (tgt := 41) (d_M_row 37 rfl) (by decide) ?_
    exact b_M_row_41 hl  (x1) (x2) (x3) (y1) ((1 : Int32)) (r_1.2.2.2) h
  · refine go_if_ne (tgt := 40) (d_M_row 33 rfl) (by decide) (fun _ => ?_) (fun q => absurd q (of_decide_eq_false c_4))
    refine go_iconst (x := (0 : Int32)) (d_M_row 40 rfl) (by decide) ?_
    exact b_M_row_41 hl  (x1) (x2) (x3) (y1) ((0 : Int32)) (r_1.2.2.2) h
def f_M_row_21  (x1 : Int32) (x2 : Int32) (x3 : Int32) (v : go_V) : Option go_R := f_M_row_26  (x1) (x2) (x3) ((1 : Int32)) (v)
set_option maxHeartbeats 4000000 in
set_option maxRecDepth 100000 in
theorem b_M_row_21 {l : Launch} {G : go_G} {ad : Nat → Nat} (hl : l.stackTraces = false) {r : go_R}  (x1 : Int32) (x2 : Int32) (x3 : Int32) (v : go_V) (h : f_M_row_21  x1 x2 x3 v = some r) : Go l G M_M_row go_Ex0 (go_E G ad 0 r 0 0) ad v [(0, .ref (ad (100))), (1, .int x1), (2, .int x2), (3, .int x3)] 21 [.ref (ad (100))] 0 0 := by
  unfold f_M_row_21 at h
  refine go_iconst (x := (1 : Int32)) (d_M_row 21 rfl) (by decide) ?_
  refine go_goto (tgt := 26) (d_M_row 22 rfl) (by decide) ?_
  exact b_M_row_26 hl  (x1) (x2) (x3) ((1 : Int32)) (v) h
def f_M_row (x1 : Int32) (x2 : Int32) (x3 : Int32) (v : go_V) : Option go_R := bd (f_M_in x1 (0 : Int32) (9 : Int32) v) (fun r_1 => nt r_1 (br (decide (r_1.2.1 = 0)) (f_M_row_21  (x1) (x2) (x3) (r_1.2.2.2)) (bd (f_M_in x2 (0 : Int32) (7 : Int32) r_1.2.2.2) (fun r_5 => nt r_5 (br (decide (r_5.2.1 = 0)) (f_M_row_21  (x1) (x2) (x3) (r_5.2.2.2)) (f_M_row_26  (x1) (x2) (x3) ((0 : Int32)) (r_5.2.2.2)))))))
set_option maxHeartbeats 4000000 in
set_option maxRecDepth 100000 in
theorem Ca_M_row {l : Launch} {G : go_G} {ad : Nat → Nat} (hl : l.stackTraces = false) {r : go_R} {x1 : Int32} {x2 : Int32} {x3 : Int32} {v : go_V} (h : f_M_row x1 x2 x3 v = some r) : Ca l G y_M_row (.code y_M_row c_M_row 4 none :: go_TT) (rmD 1 0) 0 ad [.ref (ad (100)), .int x1, .int x2, .int x3] v r := by
  unfold f_M_row at h
  refine go_body (own := RM) (by decide) rfl (Nat.le_of_ble_eq_true rfl) ?_
  show Go l G M_M_row go_Ex0 (go_E G ad 0 r 0 0) ad v [(0, .ref (ad (100))), (1, .int x1), (2, .int x2), (3, .int x3)] 0 [] 0 0
  refine go_aload_n (d_M_row 0 rfl) rfl rfl ?_
  refine go_iload_n (d_M_row 1 rfl) rfl rfl ?_
  refine go_iconst (x := (0 : Int32)) (d_M_row 2 rfl) (by decide) ?_
  refine go_bipush (x := (9 : Int32)) (d_M_row 3 rfl) (by decide) ?_
  obtain ⟨r_1, o_2, h⟩ := bd_some h
  obtain ⟨z_3, h⟩ := nt_some h
  refine go_cS (As := [.int x1, .int ((0 : Int32)), .int ((9 : Int32))]) (rest := [.ref (ad (100))]) (st2 := [.int (r_1.2.1), .ref (ad (100))]) (c2 := 0) (s2 := 0) rfl rfl rfl rfl (Ca_M_in hl o_2)  (d_M_row 5 rfl) cw_M_73 w_639 ⟨by decide, by decide⟩ rfl (Nat.le_of_ble_eq_true rfl) ⟨by decide, by decide⟩ (fun _ => ?_) (fun q => absurd z_3 q)
  rcases br_some h with ⟨c_4, h⟩ | ⟨c_4, h⟩
  · refine go_if_eq (tgt := 21) (d_M_row 8 rfl) (by decide) (fun _ => ?_) (fun q => absurd (of_decide_eq_true c_4) q)
    exact b_M_row_21 hl  (x1) (x2) (x3) (r_1.2.2.2) h
  · refine go_if_eq (tgt := 21) (d_M_row 8 rfl) (by decide) (fun q => absurd q (of_decide_eq_false c_4)) (fun _ => ?_)
    refine go_iload_n (d_M_row 11 rfl) rfl rfl ?_
    refine go_iconst (x := (0 : Int32)) (d_M_row 12 rfl) (by decide) ?_
    refine go_bipush (x := (7 : Int32)) (d_M_row 13 rfl) (by decide) ?_
    obtain ⟨r_5, o_6, h⟩ := bd_some h
    obtain ⟨z_7, h⟩ := nt_some h
    refine go_cS (As := [.int x2, .int ((0 : Int32)), .int ((7 : Int32))]) (rest := [.ref (ad (100))]) (st2 := [.int (r_5.2.1), .ref (ad (100))]) (c2 := 0) (s2 := 0) rfl rfl rfl rfl (Ca_M_in hl o_6)  (d_M_row 15 rfl) cw_M_73 w_639 ⟨by decide, by decide⟩ rfl (Nat.le_of_ble_eq_true rfl) ⟨by decide, by decide⟩ (fun _ => ?_) (fun q => absurd z_7 q)
    rcases br_some h with ⟨c_8, h⟩ | ⟨c_8, h⟩
    · refine go_if_ne (tgt := 25) (d_M_row 18 rfl) (by decide) (fun q => absurd (of_decide_eq_true c_8) q) (fun _ => ?_)
      exact b_M_row_21 hl  (x1) (x2) (x3) (r_5.2.2.2) h
    · refine go_if_ne (tgt := 25) (d_M_row 18 rfl) (by decide) (fun _ => ?_) (fun q => absurd q (of_decide_eq_false c_8))
      refine go_iconst (x := (0 : Int32)) (d_M_row 25 rfl) (by decide) ?_
      exact b_M_row_26 hl  (x1) (x2) (x3) ((0 : Int32)) (r_5.2.2.2) h
abbrev M_M_top : go_M := (c_M_top, 4, none, RM, [], rmD 1 0)
def f_M_top_63  (x1 : Int32) (x2 : Int32) (x3 : Int32) (y1 : Int32) (v : go_V) : Option go_R := bd (f_M_throwing y1 x2 (0 : Int32) v) (fun r_1 => nt r_1 (br (decide (r_1.2.1 = 0)) (ln (u2 r_1.2.2.2 100 2 x1) (fun v_5 => some (0, 0, 0, v_5))) (some (0, 0, 0, r_1.2.2.2))))
set_option maxHeartbeats 4000000 in
set_option maxRecDepth 100000 in
theorem b_M_top_63 {l : Launch} {G : go_G} {ad : Nat → Nat} (hl : l.stackTraces = false) {r : go_R}  (x1 : Int32) (x2 : Int32) (x3 : Int32) (y1 : Int32) (v : go_V) (h : f_M_top_63  x1 x2 x3 y1 v = some r) : Go l G M_M_top go_Ex0 (go_E G ad 0 r 0 0) ad v [(0, .ref (ad (100))), (1, .int x1), (2, .int x2), (3, .int x3)] 63 [.int y1, .ref (ad (100))] 0 0 := by
  unfold f_M_top_63 at h
  refine go_iload_n (d_M_top 63 rfl) rfl rfl ?_
  refine go_iconst (x := (0 : Int32)) (d_M_top 64 rfl) (by decide) ?_
  obtain ⟨r_1, o_2, h⟩ := bd_some h
  obtain ⟨z_3, h⟩ := nt_some h
  refine go_cV (As := [.int y1, .int x2, .int ((0 : Int32))]) (rest := []) (st2 := [.int (r_1.2.1)]) (c2 := 0) (s2 := 0) rfl rfl rfl rfl (Ca_M_throwing hl o_2)  (d_M_top 65 rfl) cw_M_84 ⟨w_643, w_18⟩ rfl (by decide) rfl ⟨by decide, by decide⟩ rfl (Nat.le_of_ble_eq_true rfl) ⟨by decide, by decide⟩ (fun _ => ?_) (fun q => absurd z_3 q)
  rcases br_some h with ⟨c_4, h⟩ | ⟨c_4, h⟩
  · refine go_if_eq (tgt := 72) (d_M_top 68 rfl) (by decide) (fun _ => ?_) (fun q => absurd (of_decide_eq_true c_4) q)
    refine go_aload_n (d_M_top 72 rfl) rfl rfl ?_
    refine go_iload_n (d_M_top 73 rfl) rfl rfl ?_
    obtain ⟨v_5, ev_5, h⟩ := ln_some h
    refine go_putI (x := x1) (d_M_top 74 rfl) fp_M_88 rfl rfl rfl rfl ?_
    rw [← ev_5]
    exact go_vret (d_M_top 77 rfl) rfl (Option.some.inj h) (by decide) (by decide)
  · refine go_if_eq (tgt := 72) (d_M_top 68 rfl) (by decide) (fun q => absurd q (of_decide_eq_false c_4)) (fun _ => ?_)
    exact go_vret (d_M_top 71 rfl) rfl (Option.some.inj h) (by decide) (by decide)
def f_M_top_40 (rec4 : Int32 → Int32 → Int32 → go_V → Option go_R) (x1 : Int32) (x2 : Int32) (x3 : Int32) (y0 : Int32) (v : go_V) : Option go_R := rec4 (x1) (y0) ((x3 + 1)) (v)
set_option maxHeartbeats 4000000 in
set_option maxRecDepth 100000 in
theorem b_M_top_40 {l : Launch} {G : go_G} {ad : Nat → Nat} (hl : l.stackTraces = false) {r : go_R} (rec4 : Int32 → Int32 → Int32 → go_V → Option go_R) (hrec4 : ∀ (x1 : Int32) (x2 : Int32) (x3 : Int32) (v : go_V), rec4 x1 x2 x3 v = some r → Go l G M_M_top go_Ex0 (go_E G ad 0 r 0 0) ad v [(0, .ref (ad (100))), (1, .int x1), (2, .int x2), (3, .int x3)] 4 [] 0 0) (x1 : Int32) (x2 : Int32) (x3 : Int32) (y0 : Int32) (v : go_V) (h : f_M_top_40 rec4 x1 x2 x3 y0 v = some r) : Go l G M_M_top go_Ex0 (go_E G ad 0 r 0 0) ad v [(0, .ref (ad (100))), (1, .int x1), (2, .int x2), (3, .int x3)] 40 [.int y0] 0 0 := by
  unfold f_M_top_40 at h
  refine go_istore_n (lv' := [(0, .ref (ad (100))), (1, .int x1), (2, .int y0), (3, .int x3)]) (d_M_top 40 rfl) rfl (by decide) rfl ?_
  refine go_iinc (y := (x3 + 1)) (lv' := [(0, .ref (ad (100))), (1, .int x1), (2, .int y0), (3, .int ((x3 + 1)))]) (d_M_top 41 rfl) rfl rfl (by decide) rfl ?_
  refine go_goto (tgt := 4) (d_M_top 44 rfl) (by decide) ?_
  exact hrec4 (x1) (y0) ((x3 + 1)) (v) h
def f_M_top_35 (rec4 : Int32 → Int32 → Int32 → go_V → Option go_R) (x1 : Int32) (x2 : Int32) (x3 : Int32) (v : go_V) : Option go_R := f_M_top_40 (rec4) (x1) (x2) (x3) ((1 : Int32)) (v)
set_option maxHeartbeats 4000000 in
set_option maxRecDepth 100000 in
theorem b_M_top_35 {l : Launch} {G : go_G} {ad : Nat → Nat} (hl : l.stackTraces = false) {r : go_R} (rec4 : Int32 → Int32 → Int32 → go_V → Option go_R) (hrec4 : ∀ (x1 : Int32) (x2 : Int32) (x3 : Int32) (v : go_V), rec4 x1 x2 x3 v = some r → Go l G M_M_top go_Ex0 (go_E G ad 0 r 0 0) ad v [(0, .ref (ad (100))), (1, .int x1), (2, .int x2), (3, .int x3)] 4 [] 0 0) (x1 : Int32) (x2 : Int32) (x3 : Int32) (v : go_V) (h : f_M_top_35 rec4 x1 x2 x3 v = some r) : Go l G M_M_top go_Ex0 (go_E G ad 0 r 0 0) ad v [(0, .ref (ad (100))), (1, .int x1), (2, .int x2), (3, .int x3)] 35 [] 0 0 := by
  unfold f_M_top_35 at h
  refine go_iconst (x := (1 : Int32)) (d_M_top 35 rfl) (by decide) ?_
  refine go_goto (tgt := 40) (d_M_top 36 rfl) (by decide) ?_
  exact b_M_top_40 hl _ hrec4 (x1) (x2) (x3) ((1 : Int32)) (v) h
def f_M_top_39 (rec4 : Int32 → Int32 → Int32 → go_V → Option go_R) (x1 : Int32) (x2 : Int32) (x3 : Int32) (v : go_V) : Option go_R := f_M_top_40 (rec4) (x1) (x2) (x3) ((0 : Int32)) (v)
set_option maxHeartbeats 4000000 in
set_option maxRecDepth 100000 in
theorem b_M_top_39 {l : Launch} {G : go_G} {ad : Nat → Nat} (hl : l.stackTraces = false) {r : go_R} (rec4 : Int32 → Int32 → Int32 → go_V → Option go_R) (hrec4 : ∀ (x1 : Int32) (x2 : Int32) (x3 : Int32) (v : go_V), rec4 x1 x2 x3 v = some r → Go l G M_M_top go_Ex0 (go_E G ad 0 r 0 0) ad v [(0, .ref (ad (100))), (1, .int x1), (2, .int x2), (3, .int x3)] 4 [] 0 0) (x1 : Int32) (x2 : Int32) (x3 : Int32) (v : go_V) (h : f_M_top_39 rec4 x1 x2 x3 v = some r) : Go l G M_M_top go_Ex0 (go_E G ad 0 r 0 0) ad v [(0, .ref (ad (100))), (1, .int x1), (2, .int x2), (3, .int x3)] 39 [] 0 0 := by
  unfold f_M_top_39 at h
  refine go_iconst (x := (0 : Int32)) (d_M_top 39 rfl) (by decide) ?_
  exact b_M_top_40 hl _ hrec4 (x1) (x2) (x3) ((0 : Int32)) (v) h
def f_M_top_4  : Nat → Int32 → Int32 → Int32 → go_V → Option go_R
  | 0, _, _, _, _ => none
  | n + 1, x1, x2, x3, v => br (decide ((v 100 10) ≤ x3)) (bd (f_M_in x1 (0 : Int32) (9 : Int32) v) (fun r_2 => nt r_2 (br (decide (r_2.2.1 = 0)) (f_M_top_63  (x1) (x2) (x3) ((1 : Int32)) (r_2.2.2.2)) (f_M_top_63  (x1) (x2) (x3) ((0 : Int32)) (r_2.2.2.2))))) (br (decide (x2 = 0)) (gd (go_in x3 12) (br (decide ((v 107 x3.toNatClampNeg) = 0)) (f_M_top_39 (f_M_top_4 n) (x1) (x2) (x3) (v)) (gd (go_in x3 12) (br (decide ((v 108 x3.toNatClampNeg) ≤ x1)) (f_M_top_39 (f_M_top_4 n) (x1) (x2) (x3) (v)) (f_M_top_35 (f_M_top_4 n) (x1) (x2) (x3) (v)))))) (f_M_top_35 (f_M_top_4 n) (x1) (x2) (x3) (v)))
set_option maxHeartbeats 4000000 in
set_option maxRecDepth 100000 in
theorem b_M_top_4 {l : Launch} {G : go_G} {ad : Nat → Nat} (hl : l.stackTraces = false) {r : go_R}  : ∀ (n : Nat) (x1 : Int32) (x2 : Int32) (x3 : Int32) (v : go_V), f_M_top_4  n x1 x2 x3 v = some r → Go l G M_M_top go_Ex0 (go_E G ad 0 r 0 0) ad v [(0, .ref (ad (100))), (1, .int x1), (2, .int x2), (3, .int x3)] 4 [] 0 0 := by
  intro n
  induction n with
  | zero =>
    intro x1 x2 x3 v h
    cases h
  | succ n ih =>
    intro x1 x2 x3 v h
    rw [f_M_top_4] at h
    refine go_iload_n (d_M_top 4 rfl) rfl rfl ?_
    refine go_aload_n (d_M_top 5 rfl) rfl rfl ?_
    refine go_getI (d_M_top 6 rfl) fl_M_70 rfl rfl ?_
    rcases br_some h with ⟨c_1, h⟩ | ⟨c_1, h⟩
    · refine go_icmp_ge (tgt := 47) (d_M_top 9 rfl) (by decide) (fun _ => ?_) (fun q => absurd (of_decide_eq_true c_1) q)
      refine go_aload_n (d_M_top 47 rfl) rfl rfl ?_
      refine go_iload_n (d_M_top 48 rfl) rfl rfl ?_
      refine go_iconst (x := (0 : Int32)) (d_M_top 49 rfl) (by decide) ?_
      refine go_bipush (x := (9 : Int32)) (d_M_top 50 rfl) (by decide) ?_
      obtain ⟨r_2, o_3, h⟩ := bd_some h
      obtain ⟨z_4, h⟩ := nt_some h
      refine go_cS (As := [.int x1, .int ((0 : Int32)), .int ((9 : Int32))]) (rest := [.ref (ad (100))]) (st2 := [.int (r_2.2.1), .ref (ad (100))]) (c2 := 0) (s2 := 0) rfl rfl rfl rfl (Ca_M_in hl o_3)  (d_M_top 52 rfl) cw_M_73 w_639 ⟨by decide, by decide⟩ rfl (Nat.le_of_ble_eq_true rfl) ⟨by decide, by decide⟩ (fun _ => ?_) (fun q => absurd z_4 q)
      rcases br_some h with ⟨c_5, h⟩ | ⟨c_5, h⟩
      · refine go_if_ne (tgt := 62) (d_M_top 55 rfl) (by decide) (fun q => absurd (of_decide_eq_true c_5) q) (fun _ => ?_)
        refine go_iconst (x := (1 : Int32)) (d_M_top 58 rfl) (by decide) ?_
        refine go_goto (tgt := 63) (d_M_top 59 rfl) (by decide) ?_
        exact b_M_top_63 hl  (x1) (x2) (x3) ((1 : Int32)) (r_2.2.2.2) h
      · refine go_if_ne (tgt := 62) (d_M_top 55 rfl) (by decide) (fun _ => ?_) (fun q => absurd q (of_decide_eq_false c_5))
        refine go_iconst (x := (0 : Int32)) (d_M_top 62 rfl) (by decide) ?_
        exact b_M_top_63 hl  (x1) (x2) (x3) ((0 : Int32)) (r_2.2.2.2) h
    · refine go_icmp_ge (tgt := 47) (d_M_top 9 rfl) (by decide) (fun q => absurd q (of_decide_eq_false c_1)) (fun _ => ?_)
      refine go_iload_n (d_M_top 12 rfl) rfl rfl ?_
      rcases br_some h with ⟨c_6, h⟩ | ⟨c_6, h⟩
      · refine go_if_ne (tgt := 35) (d_M_top 13 rfl) (by decide) (fun q => absurd (of_decide_eq_true c_6) q) (fun _ => ?_)
        refine go_aload_n (d_M_top 16 rfl) rfl rfl ?_
        refine go_getR (d_M_top 17 rfl) fl_M_28 rfl rfl ?_
        show Go _ _ _ _ _ _ _ _ _ (.ref (ad (107)) :: []) _ _
        refine go_iload_n (d_M_top 20 rfl) rfl rfl ?_
        obtain ⟨g_7, h⟩ := gd_some h
        refine go_zald (d_M_top 21 rfl) rfl g_7 ?_
        rcases br_some h with ⟨c_8, h⟩ | ⟨c_8, h⟩
        · refine go_if_eq (tgt := 39) (d_M_top 22 rfl) (by decide) (fun _ => ?_) (fun q => absurd (of_decide_eq_true c_8) q)
          exact b_M_top_39 hl _ ih (x1) (x2) (x3) (v) h
        · refine go_if_eq (tgt := 39) (d_M_top 22 rfl) (by decide) (fun q => absurd q (of_decide_eq_false c_8)) (fun _ => ?_)
          refine go_aload_n (d_M_top 25 rfl) rfl rfl ?_
          refine go_getR (d_M_top 26 rfl) fl_M_32 rfl rfl ?_
          show Go _ _ _ _ _ _ _ _ _ (.ref (ad (108)) :: []) _ _
          refine go_iload_n (d_M_top 29 rfl) rfl rfl ?_
          obtain ⟨g_9, h⟩ := gd_some h
          refine go_iald (d_M_top 30 rfl) rfl g_9 ?_
          refine go_iload_n (d_M_top 31 rfl) rfl rfl ?_
          rcases br_some h with ⟨c_10, h⟩ | ⟨c_10, h⟩
          · refine go_icmp_le (tgt := 39) (d_M_top 32 rfl) (by decide) (fun _ => ?_) (fun q => absurd (of_decide_eq_true c_10) q)
            exact b_M_top_39 hl _ ih (x1) (x2) (x3) (v) h
          · refine go_icmp_le (tgt := 39) (d_M_top 32 rfl) (by decide) (fun q => absurd q (of_decide_eq_false c_10)) (fun _ => ?_)
            exact b_M_top_35 hl _ ih (x1) (x2) (x3) (v) h
      · refine go_if_ne (tgt := 35) (d_M_top 13 rfl) (by decide) (fun _ => ?_) (fun q => absurd q (of_decide_eq_false c_6))
        exact b_M_top_35 hl _ ih (x1) (x2) (x3) (v) h
def f_M_top (x1 : Int32) (v : go_V) : Option go_R := f_M_top_4  FU (x1) ((0 : Int32)) ((0 : Int32)) (v)
set_option maxHeartbeats 4000000 in
set_option maxRecDepth 100000 in
theorem Ca_M_top {l : Launch} {G : go_G} {ad : Nat → Nat} (hl : l.stackTraces = false) {r : go_R} {x1 : Int32} {v : go_V} (h : f_M_top x1 v = some r) : Ca l G y_M_top (.code y_M_top c_M_top 4 none :: go_TT) (rmD 1 0) 0 ad [.ref (ad (100)), .int x1] v r := by
  unfold f_M_top at h
  refine go_body (own := RM) (by decide) rfl (Nat.le_of_ble_eq_true rfl) ?_
  show Go l G M_M_top go_Ex0 (go_E G ad 0 r 0 0) ad v [(0, .ref (ad (100))), (1, .int x1)] 0 [] 0 0
  refine go_iconst (x := (0 : Int32)) (d_M_top 0 rfl) (by decide) ?_
  refine go_istore_n (lv' := [(0, .ref (ad (100))), (1, .int x1), (2, .int ((0 : Int32)))]) (d_M_top 1 rfl) rfl (by decide) rfl ?_
  refine go_iconst (x := (0 : Int32)) (d_M_top 2 rfl) (by decide) ?_
  refine go_istore_n (lv' := [(0, .ref (ad (100))), (1, .int x1), (2, .int ((0 : Int32))), (3, .int ((0 : Int32)))]) (d_M_top 3 rfl) rfl (by decide) rfl ?_
  exact b_M_top_4 hl  FU (x1) ((0 : Int32)) ((0 : Int32)) (v) h
abbrev M_M_trigger : go_M := (c_M_trigger, 7, (some .int), RM, [], rmD 1 0)
def f_M_trigger_118  (x1 : Int32) (x2 : Int32) (x3 : Int32) (x4 : Int32) (x5 : Int32) (x6 : Int32) (y1 : Int32) (y2 : Int32) (y3 : Int32) (v : go_V) : Option go_R := bd (f_M_throwing y1 y2 y3 v) (fun r_1 => nt r_1 (br (decide (r_1.2.1 = 0)) (gd (go_in (r_1.2.2.2 100 4) 20) (ln (u2 r_1.2.2.2 102 (r_1.2.2.2 100 4).toNatClampNeg x1) (fun v_6 => gd (go_in (v_6 100 4) 20) (ln (u2 v_6 103 (v_6 100 4).toNatClampNeg x2) (fun v_8 => gd (go_in (v_8 100 4) 20) (ln (u2 v_8 104 (v_8 100 4).toNatClampNeg x3) (fun v_10 => gd (go_in (v_10 100 4) 20) (ln (u2 v_10 105 (v_10 100 4).toNatClampNeg x4) (fun v_12 => ln (u2 v_12 100 4 ((v_12 100 4) + (1 : Int32))) (fun v_13 => some (0, ((v_13 100 4) - (1 : Int32)), 0, v_13))))))))))) (some (0, (0 : Int32), 0, r_1.2.2.2))))
set_option maxHeartbeats 4000000 in
set_option maxRecDepth 100000 in
theorem b_M_trigger_118 {l : Launch} {G : go_G} {ad : Nat → Nat} (hl : l.stackTraces = false) {r : go_R}  (x1 : Int32) (x2 : Int32) (x3 : Int32) (x4 : Int32) (x5 : Int32) (x6 : Int32) (y1 : Int32) (y2 : Int32) (y3 : Int32) (v : go_V) (h : f_M_trigger_118  x1 x2 x3 x4 x5 x6 y1 y2 y3 v = some r) : Go l G M_M_trigger go_Ex0 (go_E G ad 1 r 0 0) ad v [(0, .ref (ad (100))), (1, .int x1), (2, .int x2), (3, .int x3), (4, .int x4), (5, .int x5), (6, .int x6)] 118 [.int y3, .int y2, .int y1, .ref (ad (100))] 0 0 := by
  unfold f_M_trigger_118 at h
  obtain ⟨r_1, o_2, h⟩ := bd_some h
  obtain ⟨z_3, h⟩ := nt_some h
  refine go_cV (As := [.int y1, .int y2, .int y3]) (rest := []) (st2 := [.int (r_1.2.1)]) (c2 := 0) (s2 := 0) rfl rfl rfl rfl (Ca_M_throwing hl o_2)  (d_M_trigger 118 rfl) cw_M_84 ⟨w_643, w_18⟩ rfl (by decide) rfl ⟨by decide, by decide⟩ rfl (Nat.le_of_ble_eq_true rfl) ⟨by decide, by decide⟩ (fun _ => ?_) (fun q => absurd z_3 q)
  rcases br_some h with ⟨c_4, h⟩ | ⟨c_4, h⟩
  · refine go_if_eq (tgt := 126) (d_M_trigger 121 rfl) (by decide) (fun _ => ?_) (fun q => absurd (of_decide_eq_true c_4) q)
    refine go_aload_n (d_M_trigger 126 rfl) rfl rfl ?_
    refine go_getR (d_M_trigger 127 rfl) fl_M_13 rfl rfl ?_
    show Go _ _ _ _ _ _ _ _ _ (.ref (ad (102)) :: []) _ _
    refine go_aload_n (d_M_trigger 130 rfl) rfl rfl ?_
    refine go_getI (d_M_trigger 131 rfl) fl_M_92 rfl rfl ?_
    refine go_iload_n (d_M_trigger 134 rfl) rfl rfl ?_
    obtain ⟨g_5, h⟩ := gd_some h
    obtain ⟨v_6, ev_6, h⟩ := ln_some h
    refine go_iast (y := x1) (d_M_trigger 135 rfl) rfl g_5 ?_
    rw [← ev_6]
    refine go_aload_n (d_M_trigger 136 rfl) rfl rfl ?_
    refine go_getR (d_M_trigger 137 rfl) fl_M_16 rfl rfl ?_
    show Go _ _ _ _ _ _ _ _ _ (.ref (ad (103)) :: []) _ _
    refine go_aload_n (d_M_trigger 140 rfl) rfl rfl ?_
    refine go_getI (d_M_trigger 141 rfl) fl_M_92 rfl rfl ?_
    refine go_iload_n (d_M_trigger 144 rfl) rfl rfl ?_
    obtain ⟨g_7, h⟩ := gd_some h
    obtain ⟨v_8, ev_8, h⟩ := ln_some h
    refine go_iast (y := x2) (d_M_trigger 145 rfl) rfl g_7 ?_
    rw [← ev_8]
    refine go_aload_n (d_M_trigger 146 rfl) rfl rfl ?_
    refine go_getR (d_M_trigger 147 rfl) fl_M_19 rfl rfl ?_
    show Go _ _ _ _ _ _ _ _ _ (.ref (ad (104)) :: []) _ _
    refine go_aload_n (d_M_trigger 150 rfl) rfl rfl ?_
    refine go_getI (d_M_trigger 151 rfl) fl_M_92 rfl rfl ?_
    refine go_iload_n (d_M_trigger 154 rfl) rfl rfl ?_
    obtain ⟨g_9, h⟩ := gd_some h
    obtain ⟨v_10, ev_10, h⟩ := ln_some h
    refine go_iast (y := x3) (d_M_trigger 155 rfl) rfl g_9 ?_
    rw [← ev_10]
    refine go_aload_n (d_M_trigger 156 rfl) rfl rfl ?_
    refine go_getR (d_M_trigger 157 rfl) fl_M_22 rfl rfl ?_
    show Go _ _ _ _ _ _ _ _ _ (.ref (ad (105)) :: []) _ _
    refine go_aload_n (d_M_trigger 160 rfl) rfl rfl ?_
    refine go_getI (d_M_trigger 161 rfl) fl_M_92 rfl rfl ?_
    refine go_iload (d_M_trigger 164 rfl) rfl ?_
    obtain ⟨g_11, h⟩ := gd_some h
    obtain ⟨v_12, ev_12, h⟩ := ln_some h
    refine go_iast (y := x4) (d_M_trigger 166 rfl) rfl g_11 ?_
    rw [← ev_12]
    refine go_aload_n (d_M_trigger 167 rfl) rfl rfl ?_
    refine go_dup (d_M_trigger 168 rfl) rfl ?_
    refine go_getI (d_M_trigger 169 rfl) fl_M_92 rfl rfl ?_
    refine go_iconst (x := (1 : Int32)) (d_M_trigger 172 rfl) (by decide) ?_
    refine go_iadd (d_M_trigger 173 rfl) ?_
    obtain ⟨v_13, ev_13, h⟩ := ln_some h
    refine go_putI (x := ((v_12 100 4) + (1 : Int32))) (d_M_trigger 174 rfl) fp_M_92 rfl rfl rfl rfl ?_
    rw [← ev_13]
    refine go_aload_n (d_M_trigger 177 rfl) rfl rfl ?_
    refine go_getI (d_M_trigger 178 rfl) fl_M_92 rfl rfl ?_
    refine go_iconst (x := (1 : Int32)) (d_M_trigger 181 rfl) (by decide) ?_
    refine go_isub (d_M_trigger 182 rfl) ?_
    exact go_iret (d_M_trigger 183 rfl) rfl rfl (Option.some.inj h) (by decide) (by decide)
  · refine go_if_eq (tgt := 126) (d_M_trigger 121 rfl) (by decide) (fun q => absurd q (of_decide_eq_false c_4)) (fun _ => ?_)
    refine go_iconst (x := (0 : Int32)) (d_M_trigger 124 rfl) (by decide) ?_
    exact go_iret (d_M_trigger 125 rfl) rfl rfl (Option.some.inj h) (by decide) (by decide)
def f_M_trigger_104  (x1 : Int32) (x2 : Int32) (x3 : Int32) (x4 : Int32) (x5 : Int32) (x6 : Int32) (y1 : Int32) (y2 : Int32) (v : go_V) : Option go_R := br (decide ((v 100 4) = (20 : Int32))) (f_M_trigger_118  (x1) (x2) (x3) (x4) (x5) (x6) (y1) (y2) ((1 : Int32)) (v)) (f_M_trigger_118  (x1) (x2) (x3) (x4) (x5) (x6) (y1) (y2) ((0 : Int32)) (v))
set_option maxHeartbeats 4000000 in
set_option maxRecDepth 100000 in
theorem b_M_trigger_104 {l : Launch} {G : go_G} {ad : Nat → Nat} (hl : l.stackTraces = false) {r : go_R}  (x1 : Int32) (x2 : Int32) (x3 : Int32) (x4 : Int32) (x5 : Int32) (x6 : Int32) (y1 : Int32) (y2 : Int32) (v : go_V) (h : f_M_trigger_104  x1 x2 x3 x4 x5 x6 y1 y2 v = some r) : Go l G M_M_trigger go_Ex0 (go_E G ad 1 r 0 0) ad v [(0, .ref (ad (100))), (1, .int x1), (2, .int x2), (3, .int x3), (4, .int x4), (5, .int x5), (6, .int x6)] 104 [.int y2, .int y1, .ref (ad (100))] 0 0 := by
  unfold f_M_trigger_104 at h
  refine go_aload_n (d_M_trigger 104 rfl) rfl rfl ?_
  refine go_getI (d_M_trigger 105 rfl) fl_M_92 rfl rfl ?_
  refine go_bipush (x := (20 : Int32)) (d_M_trigger 108 rfl) (by decide) ?_
  rcases br_some h with ⟨c_1, h⟩ | ⟨c_1, h⟩
  · refine go_icmp_ne (tgt := 117) (d_M_trigger 110 rfl) (by decide) (fun q => absurd (of_decide_eq_true c_1) q) (fun _ => ?_)
    refine go_iconst (x := (1 : Int32)) (d_M_trigger 113 rfl) (by decide) ?_
    refine go_goto (tgt := 118) (d_M_trigger 114 rfl) (by decide) ?_
    exact b_M_trigger_118 hl  (x1) (x2) (x3) (x4) (x5) (x6) (y1) (y2) ((1 : Int32)) (v) h
  · refine go_icmp_ne (tgt := 117) (d_M_trigger 110 rfl) (by decide) (fun _ => ?_) (fun q => absurd q (of_decide_eq_false c_1))
    refine go_iconst (x := (0 : Int32)) (d_M_trigger 117 rfl) (by decide) ?_
    exact b_M_trigger_118 hl  (x1) (x2) (x3) (x4) (x5) (x6) (y1) (y2) ((0 : Int32)) (v) h
def f_M_trigger_99  (x1 : Int32) (x2 : Int32) (x3 : Int32) (x4 : Int32) (x5 : Int32) (x6 : Int32) (y1 : Int32) (v : go_V) : Option go_R := f_M_trigger_104  (x1) (x2) (x3) (x4) (x5) (x6) (y1) ((1 : Int32)) (v)
set_option maxHeartbeats 4000000 in
set_option maxRecDepth 100000 in
theorem b_M_trigger_99 {l : Launch} {G : go_G} {ad : Nat → Nat} (hl : l.stackTraces = false) {r : go_R}  (x1 : Int32) (x2 : Int32) (x3 : Int32) (x4 : Int32) (x5 : Int32) (x6 : Int32) (y1 : Int32) (v : go_V) (h : f_M_trigger_99  x1 x2 x3 x4 x5 x6 y1 v = some r) : Go l G M_M_trigger go_Ex0 (go_E G ad 1 r 0 0) ad v [(0, .ref (ad (100))), (1, .int x1), (2, .int x2), (3, .int x3), (4, .int x4), (5, .int x5), (6, .int x6)] 99 [.int y1, .ref (ad (100))] 0 0 := by
  unfold f_M_trigger_99 at h
  refine go_iconst (x := (1 : Int32)) (d_M_trigger 99 rfl) (by decide) ?_
  refine go_goto (tgt := 104) (d_M_trigger 100 rfl) (by decide) ?_
  exact b_M_trigger_104 hl  (x1) (x2) (x3) (x4) (x5) (x6) (y1) ((1 : Int32)) (v) h
def f_M_trigger_78  (x1 : Int32) (x2 : Int32) (x3 : Int32) (x4 : Int32) (x5 : Int32) (y0 : Int32) (v : go_V) : Option go_R := br (decide (y0 = 0)) (f_M_trigger_99  (x1) (x2) (x3) (x4) (x5) (y0) (x5) (v)) (bd (f_M_in x4 (0 : Int32) (100000 : Int32) v) (fun r_2 => nt r_2 (br (decide (r_2.2.1 = 0)) (f_M_trigger_99  (x1) (x2) (x3) (x4) (x5) (y0) (x5) (r_2.2.2.2)) (f_M_trigger_104  (x1) (x2) (x3) (x4) (x5) (y0) (x5) ((0 : Int32)) (r_2.2.2.2)))))
set_option maxHeartbeats 4000000 in
set_option maxRecDepth 100000 in
theorem b_M_trigger_78 {l : Launch} {G : go_G} {ad : Nat → Nat} (hl : l.stackTraces = false) {r : go_R}  (x1 : Int32) (x2 : Int32) (x3 : Int32) (x4 : Int32) (x5 : Int32) (y0 : Int32) (v : go_V) (h : f_M_trigger_78  x1 x2 x3 x4 x5 y0 v = some r) : Go l G M_M_trigger go_Ex0 (go_E G ad 1 r 0 0) ad v [(0, .ref (ad (100))), (1, .int x1), (2, .int x2), (3, .int x3), (4, .int x4), (5, .int x5)] 78 [.int y0] 0 0 := by
  unfold f_M_trigger_78 at h
  refine go_istore (lv' := [(0, .ref (ad (100))), (1, .int x1), (2, .int x2), (3, .int x3), (4, .int x4), (5, .int x5), (6, .int y0)]) (d_M_trigger 78 rfl) (by decide) rfl ?_
  refine go_aload_n (d_M_trigger 80 rfl) rfl rfl ?_
  refine go_iload (d_M_trigger 81 rfl) rfl ?_
  refine go_iload (d_M_trigger 83 rfl) rfl ?_
  rcases br_some h with ⟨c_1, h⟩ | ⟨c_1, h⟩
  · refine go_if_eq (tgt := 99) (d_M_trigger 85 rfl) (by decide) (fun _ => ?_) (fun q => absurd (of_decide_eq_true c_1) q)
    exact b_M_trigger_99 hl  (x1) (x2) (x3) (x4) (x5) (y0) (x5) (v) h
  · refine go_if_eq (tgt := 99) (d_M_trigger 85 rfl) (by decide) (fun q => absurd q (of_decide_eq_false c_1)) (fun _ => ?_)
    refine go_iload (d_M_trigger 88 rfl) rfl ?_
    refine go_iconst (x := (0 : Int32)) (d_M_trigger 90 rfl) (by decide) ?_
    refine go_ldc (x := (100000 : Int32)) (d_M_trigger 91 rfl) w_653 ?_
    obtain ⟨r_2, o_3, h⟩ := bd_some h
    obtain ⟨z_4, h⟩ := nt_some h
    refine go_cS (As := [.int x4, .int ((0 : Int32)), .int ((100000 : Int32))]) (rest := [.int x5, .ref (ad (100))]) (st2 := [.int (r_2.2.1), .int x5, .ref (ad (100))]) (c2 := 0) (s2 := 0) rfl rfl rfl rfl (Ca_M_in hl o_3)  (d_M_trigger 93 rfl) cw_M_73 w_639 ⟨by decide, by decide⟩ rfl (Nat.le_of_ble_eq_true rfl) ⟨by decide, by decide⟩ (fun _ => ?_) (fun q => absurd z_4 q)
    rcases br_some h with ⟨c_5, h⟩ | ⟨c_5, h⟩
    · refine go_if_ne (tgt := 103) (d_M_trigger 96 rfl) (by decide) (fun q => absurd (of_decide_eq_true c_5) q) (fun _ => ?_)
      exact b_M_trigger_99 hl  (x1) (x2) (x3) (x4) (x5) (y0) (x5) (r_2.2.2.2) h
    · refine go_if_ne (tgt := 103) (d_M_trigger 96 rfl) (by decide) (fun _ => ?_) (fun q => absurd q (of_decide_eq_false c_5))
      refine go_iconst (x := (0 : Int32)) (d_M_trigger 103 rfl) (by decide) ?_
      exact b_M_trigger_104 hl  (x1) (x2) (x3) (x4) (x5) (y0) (x5) ((0 : Int32)) (r_2.2.2.2) h
def f_M_trigger_24  (x1 : Int32) (x2 : Int32) (x3 : Int32) (x4 : Int32) (y0 : Int32) (v : go_V) : Option go_R := br (decide (x1 = 0)) (bd (f_M_in x2 (0 : Int32) (99 : Int32) v) (fun r_13 => nt r_13 (f_M_trigger_78  (x1) (x2) (x3) (x4) (y0) (r_13.2.1) (r_13.2.2.2)))) (br (decide (x1 = (1 : Int32))) (bd (f_M_in x2 (1 : Int32) (1000 : Int32) v) (fun r_10 => nt r_10 (f_M_trigger_78  (x1) (x2) (x3) (x4) (y0) (r_10.2.1) (r_10.2.2.2)))) (br (decide (x1 = (2 : Int32))) (bd (f_M_in x2 (1 : Int32) (100000 : Int32) v) (fun r_7 => nt r_7 (f_M_trigger_78  (x1) (x2) (x3) (x4) (y0) (r_7.2.1) (r_7.2.2.2)))) (bd (f_M_in x2 (0 : Int32) (9 : Int32) v) (fun r_4 => nt r_4 (f_M_trigger_78  (x1) (x2) (x3) (x4) (y0) (r_4.2.1) (r_4.2.2.2))))))
set_option maxHeartbeats 4000000 in
set_option maxRecDepth 100000 in
theorem b_M_trigger_24 {l : Launch} {G : go_G} {ad : Nat → Nat} (hl : l.stackTraces = false) {r : go_R}  (x1 : Int32) (x2 : Int32) (x3 : Int32) (x4 : Int32) (y0 : Int32) (v : go_V) (h : f_M_trigger_24  x1 x2 x3 x4 y0 v = some r) : Go l G M_M_trigger go_Ex0 (go_E G ad 1 r 0 0) ad v [(0, .ref (ad (100))), (1, .int x1), (2, .int x2), (3, .int x3), (4, .int x4)] 24 [.int y0] 0 0 := by
  unfold f_M_trigger_24 at h
  refine go_istore (lv' := [(0, .ref (ad (100))), (1, .int x1), (2, .int x2), (3, .int x3), (4, .int x4), (5, .int y0)]) (d_M_trigger 24 rfl) (by decide) rfl ?_
  refine go_iload_n (d_M_trigger 26 rfl) rfl rfl ?_
  rcases br_some h with ⟨c_1, h⟩ | ⟨c_1, h⟩
  · refine go_if_ne (tgt := 40) (d_M_trigger 27 rfl) (by decide) (fun q => absurd (of_decide_eq_true c_1) q) (fun _ => ?_)
    refine go_iload_n (d_M_trigger 30 rfl) rfl rfl ?_
    refine go_iconst (x := (0 : Int32)) (d_M_trigger 31 rfl) (by decide) ?_
    refine go_bipush (x := (99 : Int32)) (d_M_trigger 32 rfl) (by decide) ?_
    obtain ⟨r_13, o_14, h⟩ := bd_some h
    obtain ⟨z_15, h⟩ := nt_some h
    refine go_cS (As := [.int x2, .int ((0 : Int32)), .int ((99 : Int32))]) (rest := []) (st2 := [.int (r_13.2.1)]) (c2 := 0) (s2 := 0) rfl rfl rfl rfl (Ca_M_in hl o_14)  (d_M_trigger 34 rfl) cw_M_73 w_639 ⟨by decide, by decide⟩ rfl (Nat.le_of_ble_eq_true rfl) ⟨by decide, by decide⟩ (fun _ => ?_) (fun q => absurd z_15 q)
    refine go_goto (tgt := 78) (d_M_trigger 37 rfl) (by decide) ?_
    exact b_M_trigger_78 hl  (x1) (x2) (x3) (x4) (y0) (r_13.2.1) (r_13.2.2.2) h
  · refine go_if_ne (tgt := 40) (d_M_trigger 27 rfl) (by decide) (fun _ => ?_) (fun q => absurd q (of_decide_eq_false c_1))
    refine go_iload_n (d_M_trigger 40 rfl) rfl rfl ?_
    refine go_iconst (x := (1 : Int32)) (d_M_trigger 41 rfl) (by decide) ?_
    rcases br_some h with ⟨c_2, h⟩ | ⟨c_2, h⟩
    · refine go_icmp_ne (tgt := 56) (d_M_trigger 42 rfl) (by decide) (fun q => absurd (of_decide_eq_true c_2) q) (fun _ => ?_)
      refine go_iload_n (d_M_trigger 45 rfl) rfl rfl ?_
      refine go_iconst (x := (1 : Int32)) (d_M_trigger 46 rfl) (by decide) ?_
      refine go_sipush (x := (1000 : Int32)) (d_M_trigger 47 rfl) (by decide) ?_
      obtain ⟨r_10, o_11, h⟩ := bd_some h
      obtain ⟨z_12, h⟩ := nt_some h
      refine go_cS (As := [.int x2, .int ((1 : Int32)), .int ((1000 : Int32))]) (rest := []) (st2 := [.int (r_10.2.1)]) (c2 := 0) (s2 := 0) rfl rfl rfl rfl (Ca_M_in hl o_11)  (d_M_trigger 50 rfl) cw_M_73 w_639 ⟨by decide, by decide⟩ rfl (Nat.le_of_ble_eq_true rfl) ⟨by decide, by decide⟩ (fun _ => ?_) (fun q => absurd z_12 q)
      refine go_goto (tgt := 78) (d_M_trigger 53 rfl) (by decide) ?_
      exact b_M_trigger_78 hl  (x1) (x2) (x3) (x4) (y0) (r_10.2.1) (r_10.2.2.2) h
    · refine go_icmp_ne (tgt := 56) (d_M_trigger 42 rfl) (by decide) (fun _ => ?_) (fun q => absurd q (of_decide_eq_false c_2))
      refine go_iload_n (d_M_trigger 56 rfl) rfl rfl ?_
      refine go_iconst (x := (2 : Int32)) (d_M_trigger 57 rfl) (by decide) ?_
      rcases br_some h with ⟨c_3, h⟩ | ⟨c_3, h⟩
      · refine go_icmp_ne (tgt := 71) (d_M_trigger 58 rfl) (by decide) (fun q => absurd (of_decide_eq_true c_3) q) (fun _ => ?_)
        refine go_iload_n (d_M_trigger 61 rfl) rfl rfl ?_
        refine go_iconst (x := (1 : Int32)) (d_M_trigger 62 rfl) (by decide) ?_
        refine go_ldc (x := (100000 : Int32)) (d_M_trigger 63 rfl) w_653 ?_
        obtain ⟨r_7, o_8, h⟩ := bd_some h
        obtain ⟨z_9, h⟩ := nt_some h
        refine go_cS (As := [.int x2, .int ((1 : Int32)), .int ((100000 : Int32))]) (rest := []) (st2 := [.int (r_7.2.1)]) (c2 := 0) (s2 := 0) rfl rfl rfl rfl (Ca_M_in hl o_8)  (d_M_trigger 65 rfl) cw_M_73 w_639 ⟨by decide, by decide⟩ rfl (Nat.le_of_ble_eq_true rfl) ⟨by decide, by decide⟩ (fun _ => ?_) (fun q => absurd z_9 q)
        refine go_goto (tgt := 78) (d_M_trigger 68 rfl) (by decide) ?_
        exact b_M_trigger_78 hl  (x1) (x2) (x3) (x4) (y0) (r_7.2.1) (r_7.2.2.2) h
      · refine go_icmp_ne (tgt := 71) (d_M_trigger 58 rfl) (by decide) (fun _ => ?_) (fun q => absurd q (of_decide_eq_false c_3))
        refine go_iload_n (d_M_trigger 71 rfl) rfl rfl ?_
        refine go_iconst (x := (0 : Int32)) (d_M_trigger 72 rfl) (by decide) ?_
        refine go_bipush (x := (9 : Int32)) (d_M_trigger 73 rfl) (by decide) ?_
        obtain ⟨r_4, o_5, h⟩ := bd_some h
        obtain ⟨z_6, h⟩ := nt_some h
        refine go_cS (As := [.int x2, .int ((0 : Int32)), .int ((9 : Int32))]) (rest := []) (st2 := [.int (r_4.2.1)]) (c2 := 0) (s2 := 0) rfl rfl rfl rfl (Ca_M_in hl o_5)  (d_M_trigger 75 rfl) cw_M_73 w_639 ⟨by decide, by decide⟩ rfl (Nat.le_of_ble_eq_true rfl) ⟨by decide, by decide⟩ (fun _ => ?_) (fun q => absurd z_6 q)
        exact b_M_trigger_78 hl  (x1) (x2) (x3) (x4) (y0) (r_4.2.1) (r_4.2.2.2) h
def f_M_trigger_19  (x1 : Int32) (x2 : Int32) (x3 : Int32) (x4 : Int32) (v : go_V) : Option go_R := f_M_trigger_24  (x1) (x2) (x3) (x4) ((1 : Int32)) (v)
set_option maxHeartbeats 4000000 in
set_option maxRecDepth 100000 in
theorem b_M_trigger_19 {l : Launch} {G : go_G} {ad : Nat → Nat} (hl : l.stackTraces = false) {r : go_R}  (x1 : Int32) (x2 : Int32) (x3 : Int32) (x4 : Int32) (v : go_V) (h : f_M_trigger_19  x1 x2 x3 x4 v = some r) : Go l G M_M_trigger go_Ex0 (go_E G ad 1 r 0 0) ad v [(0, .ref (ad (100))), (1, .int x1), (2, .int x2), (3, .int x3), (4, .int x4)] 19 [] 0 0 := by
  unfold f_M_trigger_19 at h
  refine go_iconst (x := (1 : Int32)) (d_M_trigger 19 rfl) (by decide) ?_
  refine go_goto (tgt := 24) (d_M_trigger 20 rfl) (by decide) ?_
  exact b_M_trigger_24 hl  (x1) (x2) (x3) (x4) ((1 : Int32)) (v) h
def f_M_trigger (x1 : Int32) (x2 : Int32) (x3 : Int32) (x4 : Int32) (v : go_V) : Option go_R := bd (f_M_in x1 (0 : Int32) (3 : Int32) v) (fun r_1 => nt r_1 (br (decide (r_1.2.1 = 0)) (f_M_trigger_19  (x1) (x2) (x3) (x4) (r_1.2.2.2)) (bd (f_M_in x3 (0 : Int32) (9 : Int32) r_1.2.2.2) (fun r_5 => nt r_5 (br (decide (r_5.2.1 = 0)) (f_M_trigger_19  (x1) (x2) (x3) (x4) (r_5.2.2.2)) (f_M_trigger_24  (x1) (x2) (x3) (x4) ((0 : Int32)) (r_5.2.2.2)))))))
set_option maxHeartbeats 4000000 in
set_option maxRecDepth 100000 in
theorem Ca_M_trigger {l : Launch} {G : go_G} {ad : Nat → Nat} (hl : l.stackTraces = false) {r : go_R} {x1 : Int32} {x2 : Int32} {x3 : Int32} {x4 : Int32} {v : go_V} (h : f_M_trigger x1 x2 x3 x4 v = some r) : Ca l G y_M_trigger (.code y_M_trigger c_M_trigger 7 (some .int) :: go_TT) (rmD 1 0) 1 ad [.ref (ad (100)), .int x1, .int x2, .int x3, .int x4] v r := by
  unfold f_M_trigger at h
  refine go_body (own := RM) (by decide) rfl (Nat.le_of_ble_eq_true rfl) ?_
  show Go l G M_M_trigger go_Ex0 (go_E G ad 1 r 0 0) ad v [(0, .ref (ad (100))), (1, .int x1), (2, .int x2), (3, .int x3), (4, .int x4)] 0 [] 0 0
  refine go_iload_n (d_M_trigger 0 rfl) rfl rfl ?_
  refine go_iconst (x := (0 : Int32)) (d_M_trigger 1 rfl) (by decide) ?_
  refine go_iconst (x := (3 : Int32)) (d_M_trigger 2 rfl) (by decide) ?_
  obtain ⟨r_1, o_2, h⟩ := bd_some h
  obtain ⟨z_3, h⟩ := nt_some h
  refine go_cS (As := [.int x1, .int ((0 : Int32)), .int ((3 : Int32))]) (rest := []) (st2 := [.int (r_1.2.1)]) (c2 := 0) (s2 := 0) rfl rfl rfl rfl (Ca_M_in hl o_2)  (d_M_trigger 3 rfl) cw_M_73 w_639 ⟨by decide, by decide⟩ rfl (Nat.le_of_ble_eq_true rfl) ⟨by decide, by decide⟩ (fun _ => ?_) (fun q => absurd z_3 q)
  rcases br_some h with ⟨c_4, h⟩ | ⟨c_4, h⟩
  · refine go_if_eq (tgt := 19) (d_M_trigger 6 rfl) (by decide) (fun _ => ?_) (fun q => absurd (of_decide_eq_true c_4) q)
    exact b_M_trigger_19 hl  (x1) (x2) (x3) (x4) (r_1.2.2.2) h
  · refine go_if_eq (tgt := 19) (d_M_trigger 6 rfl) (by decide) (fun q => absurd q (of_decide_eq_false c_4)) (fun _ => ?_)
    refine go_iload_n (d_M_trigger 9 rfl) rfl rfl ?_
    refine go_iconst (x := (0 : Int32)) (d_M_trigger 10 rfl) (by decide) ?_
    refine go_bipush (x := (9 : Int32)) (d_M_trigger 11 rfl) (by decide) ?_
    obtain ⟨r_5, o_6, h⟩ := bd_some h
    obtain ⟨z_7, h⟩ := nt_some h
    refine go_cS (As := [.int x3, .int ((0 : Int32)), .int ((9 : Int32))]) (rest := []) (st2 := [.int (r_5.2.1)]) (c2 := 0) (s2 := 0) rfl rfl rfl rfl (Ca_M_in hl o_6)  (d_M_trigger 13 rfl) cw_M_73 w_639 ⟨by decide, by decide⟩ rfl (Nat.le_of_ble_eq_true rfl) ⟨by decide, by decide⟩ (fun _ => ?_) (fun q => absurd z_7 q)
    rcases br_some h with ⟨c_8, h⟩ | ⟨c_8, h⟩
    · refine go_if_ne (tgt := 23) (d_M_trigger 16 rfl) (by decide) (fun q => absurd (of_decide_eq_true c_8) q) (fun _ => ?_)
      exact b_M_trigger_19 hl  (x1) (x2) (x3) (x4) (r_5.2.2.2) h
    · refine go_if_ne (tgt := 23) (d_M_trigger 16 rfl) (by decide) (fun _ => ?_) (fun q => absurd q (of_decide_eq_false c_8))
      refine go_iconst (x := (0 : Int32)) (d_M_trigger 23 rfl) (by decide) ?_
      exact b_M_trigger_24 hl  (x1) (x2) (x3) (x4) ((0 : Int32)) (r_5.2.2.2) h
abbrev M_M_begin : go_M := (c_M_begin, 1, (some .int), RM, [], rmD 1 0)
def f_M_begin_15  (y1 : Int32) (v : go_V) : Option go_R := bd (f_M_throwing y1 (0 : Int32) (0 : Int32) v) (fun r_1 => nt r_1 (br (decide (r_1.2.1 = 0)) (gd (go_in (r_1.2.2.2 100 10) 12) (ln (u2 r_1.2.2.2 107 (r_1.2.2.2 100 10).toNatClampNeg (1 : Int32)) (fun v_6 => gd (go_in (v_6 100 10) 12) (ln (u2 v_6 110 (v_6 100 10).toNatClampNeg (v_6 100 1)) (fun v_8 => ln (u2 v_8 100 10 ((v_8 100 10) + (1 : Int32))) (fun v_9 => some (0, ((v_9 100 10) - (1 : Int32)), 0, v_9))))))) (some (0, (0 : Int32), 0, r_1.2.2.2))))
set_option maxHeartbeats 4000000 in
set_option maxRecDepth 100000 in
theorem b_M_begin_15 {l : Launch} {G : go_G} {ad : Nat → Nat} (hl : l.stackTraces = false) {r : go_R}  (y1 : Int32) (v : go_V) (h : f_M_begin_15  y1 v = some r) : Go l G M_M_begin go_Ex0 (go_E G ad 1 r 0 0) ad v [(0, .ref (ad (100)))] 15 [.int y1, .ref (ad (100))] 0 0 := by
  unfold f_M_begin_15 at h
  refine go_iconst (x := (0 : Int32)) (d_M_begin 15 rfl) (by decide) ?_
  refine go_iconst (x := (0 : Int32)) (d_M_begin 16 rfl) (by decide) ?_
  obtain ⟨r_1, o_2, h⟩ := bd_some h
  obtain ⟨z_3, h⟩ := nt_some h
  refine go_cV (As := [.int y1, .int ((0 : Int32)), .int ((0 : Int32))]) (rest := []) (st2 := [.int (r_1.2.1)]) (c2 := 0) (s2 := 0) rfl rfl rfl rfl (Ca_M_throwing hl o_2)  (d_M_begin 17 rfl) cw_M_84 ⟨w_643, w_18⟩ rfl (by decide) rfl ⟨by decide, by decide⟩ rfl (Nat.le_of_ble_eq_true rfl) ⟨by decide, by decide⟩ (fun _ => ?_) (fun q => absurd z_3 q)
  rcases br_some h with ⟨c_4, h⟩ | ⟨c_4, h⟩
  · refine go_if_eq (tgt := 25) (d_M_begin 20 rfl) (by decide) (fun _ => ?_) (fun q => absurd (of_decide_eq_true c_4) q)
    refine go_aload_n (d_M_begin 25 rfl) rfl rfl ?_
    refine go_getR (d_M_begin 26 rfl) fl_M_28 rfl rfl ?_
    show Go _ _ _ _ _ _ _ _ _ (.ref (ad (107)) :: []) _ _
    refine go_aload_n (d_M_begin 29 rfl) rfl rfl ?_
    refine go_getI (d_M_begin 30 rfl) fl_M_70 rfl rfl ?_
    refine go_iconst (x := (1 : Int32)) (d_M_begin 33 rfl) (by decide) ?_
    obtain ⟨g_5, h⟩ := gd_some h
    obtain ⟨v_6, ev_6, h⟩ := ln_some h
    refine go_zast (y := (1 : Int32)) (d_M_begin 34 rfl) rfl g_5 (by decide) ?_
    rw [← ev_6]
    refine go_aload_n (d_M_begin 35 rfl) rfl rfl ?_
    refine go_getR (d_M_begin 36 rfl) fl_M_38 rfl rfl ?_
    show Go _ _ _ _ _ _ _ _ _ (.ref (ad (110)) :: []) _ _
    refine go_aload_n (d_M_begin 39 rfl) rfl rfl ?_
    refine go_getI (d_M_begin 40 rfl) fl_M_70 rfl rfl ?_
    refine go_aload_n (d_M_begin 43 rfl) rfl rfl ?_
    refine go_getI (d_M_begin 44 rfl) fl_M_95 rfl rfl ?_
    obtain ⟨g_7, h⟩ := gd_some h
    obtain ⟨v_8, ev_8, h⟩ := ln_some h
    refine go_iast (y := (v_6 100 1)) (d_M_begin 47 rfl) rfl g_7 ?_
    rw [← ev_8]
    refine go_aload_n (d_M_begin 48 rfl) rfl rfl ?_
    refine go_dup (d_M_begin 49 rfl) rfl ?_
    refine go_getI (d_M_begin 50 rfl) fl_M_70 rfl rfl ?_
    refine go_iconst (x := (1 : Int32)) (d_M_begin 53 rfl) (by decide) ?_
    refine go_iadd (d_M_begin 54 rfl) ?_
    obtain ⟨v_9, ev_9, h⟩ := ln_some h
    refine go_putI (x := ((v_8 100 10) + (1 : Int32))) (d_M_begin 55 rfl) fp_M_70 rfl rfl rfl rfl ?_
    rw [← ev_9]
    refine go_aload_n (d_M_begin 58 rfl) rfl rfl ?_
    refine go_getI (d_M_begin 59 rfl) fl_M_70 rfl rfl ?_
    refine go_iconst (x := (1 : Int32)) (d_M_begin 62 rfl) (by decide) ?_
    refine go_isub (d_M_begin 63 rfl) ?_
    exact go_iret (d_M_begin 64 rfl) rfl rfl (Option.some.inj h) (by decide) (by decide)
  · refine go_if_eq (tgt := 25) (d_M_begin 20 rfl) (by decide) (fun q => absurd q (of_decide_eq_false c_4)) (fun _ => ?_)
    refine go_iconst (x := (0 : Int32)) (d_M_begin 23 rfl) (by decide) ?_
    exact go_iret (d_M_begin 24 rfl) rfl rfl (Option.some.inj h) (by decide) (by decide)
def f_M_begin  (v : go_V) : Option go_R := br (decide ((v 100 10) = (12 : Int32))) (f_M_begin_15  ((1 : Int32)) (v)) (f_M_begin_15  ((0 : Int32)) (v))
set_option maxHeartbeats 4000000 in
set_option maxRecDepth 100000 in
theorem Ca_M_begin {l : Launch} {G : go_G} {ad : Nat → Nat} (hl : l.stackTraces = false) {r : go_R}  {v : go_V} (h : f_M_begin  v = some r) : Ca l G y_M_begin (.code y_M_begin c_M_begin 1 (some .int) :: go_TT) (rmD 1 0) 1 ad [.ref (ad (100))] v r := by
  unfold f_M_begin at h
  refine go_body (own := RM) (by decide) rfl (Nat.le_of_ble_eq_true rfl) ?_
  show Go l G M_M_begin go_Ex0 (go_E G ad 1 r 0 0) ad v [(0, .ref (ad (100)))] 0 [] 0 0
  refine go_aload_n (d_M_begin 0 rfl) rfl rfl ?_
  refine go_aload_n (d_M_begin 1 rfl) rfl rfl ?_
  refine go_getI (d_M_begin 2 rfl) fl_M_70 rfl rfl ?_
  refine go_bipush (x := (12 : Int32)) (d_M_begin 5 rfl) (by decide) ?_
  rcases br_some h with ⟨c_1, h⟩ | ⟨c_1, h⟩
  · refine go_icmp_ne (tgt := 14) (d_M_begin 7 rfl) (by decide) (fun q => absurd (of_decide_eq_true c_1) q) (fun _ => ?_)
    refine go_iconst (x := (1 : Int32)) (d_M_begin 10 rfl) (by decide) ?_
    refine go_goto (tgt := 15) (d_M_begin 11 rfl) (by decide) ?_
    exact b_M_begin_15 hl  ((1 : Int32)) (v) h
  · refine go_icmp_ne (tgt := 14) (d_M_begin 7 rfl) (by decide) (fun _ => ?_) (fun q => absurd q (of_decide_eq_false c_1))
    refine go_iconst (x := (0 : Int32)) (d_M_begin 14 rfl) (by decide) ?_
    exact b_M_begin_15 hl  ((0 : Int32)) (v) h
abbrev M_M_free : go_M := (c_M_free, 2, none, RM, [], rmD 0 0)
def f_M_free (x1 : Int32) (v : go_V) : Option go_R := gd (go_in x1 40) (ln (u2 v 116 x1.toNatClampNeg (0 : Int32)) (fun v_2 => gd (go_in x1 40) (ln (u2 v_2 117 x1.toNatClampNeg ((-1) : Int32)) (fun v_4 => gd (go_in x1 40) (ln (u2 v_4 118 x1.toNatClampNeg ((-1) : Int32)) (fun v_6 => some (0, 0, 0, v_6)))))))
set_option maxHeartbeats 4000000 in
set_option maxRecDepth 100000 in
theorem Ca_M_free {l : Launch} {G : go_G} {ad : Nat → Nat} (hl : l.stackTraces = false) {r : go_R} {x1 : Int32} {v : go_V} (h : f_M_free x1 v = some r) : Ca l G y_M_free (.code y_M_free c_M_free 2 none :: go_TT) (rmD 0 0) 0 ad [.ref (ad (100)), .int x1] v r := by
  unfold f_M_free at h
  refine go_body (own := RM) (by decide) rfl (Nat.le_of_ble_eq_true rfl) ?_
  show Go l G M_M_free go_Ex0 (go_E G ad 0 r 0 0) ad v [(0, .ref (ad (100))), (1, .int x1)] 0 [] 0 0
  refine go_aload_n (d_M_free 0 rfl) rfl rfl ?_
  refine go_getR (d_M_free 1 rfl) fl_M_56 rfl rfl ?_
  show Go _ _ _ _ _ _ _ _ _ (.ref (ad (116)) :: []) _ _
  refine go_iload_n (d_M_free 4 rfl) rfl rfl ?_
  refine go_iconst (x := (0 : Int32)) (d_M_free 5 rfl) (by decide) ?_
  obtain ⟨g_1, h⟩ := gd_some h
  obtain ⟨v_2, ev_2, h⟩ := ln_some h
  refine go_iast (y := (0 : Int32)) (d_M_free 6 rfl) rfl g_1 ?_
  rw [← ev_2]
  refine go_aload_n (d_M_free 7 rfl) rfl rfl ?_
  refine go_getR (d_M_free 8 rfl) fl_M_59 rfl rfl ?_
  show Go _ _ _ _ _ _ _ _ _ (.ref (ad (117)) :: []) _ _
  refine go_iload_n (d_M_free 11 rfl) rfl rfl ?_
  refine go_iconst (x := ((-1) : Int32)) (d_M_free 12 rfl) (by decide) ?_
  obtain ⟨g_3, h⟩ := gd_some h
  obtain ⟨v_4, ev_4, h⟩ := ln_some h
  refine go_iast (y := ((-1) : Int32)) (d_M_free 13 rfl) rfl g_3 ?_
  rw [← ev_4]
  refine go_aload_n (d_M_free 14 rfl) rfl rfl ?_
  refine go_getR (d_M_free 15 rfl) fl_M_62 rfl rfl ?_
  show Go _ _ _ _ _ _ _ _ _ (.ref (ad (118)) :: []) _ _
  refine go_iload_n (d_M_free 18 rfl) rfl rfl ?_
  refine go_iconst (x := ((-1) : Int32)) (d_M_free 19 rfl) (by decide) ?_
  obtain ⟨g_5, h⟩ := gd_some h
  obtain ⟨v_6, ev_6, h⟩ := ln_some h
  refine go_iast (y := ((-1) : Int32)) (d_M_free 20 rfl) rfl g_5 ?_
  rw [← ev_6]
  exact go_vret (d_M_free 21 rfl) rfl (Option.some.inj h) (by decide) (by decide)
abbrev M_M_isWith : go_M := (c_M_isWith, 3, (some .boolean), RM, [], rmD 0 0)
def f_M_isWith_23  (x1 : Int32) (x2 : Int32) (v : go_V) : Option go_R := some (0, (0 : Int32), 0, v)
set_option maxHeartbeats 4000000 in
set_option maxRecDepth 100000 in
theorem b_M_isWith_23 {l : Launch} {G : go_G} {ad : Nat → Nat} (hl : l.stackTraces = false) {r : go_R}  (x1 : Int32) (x2 : Int32) (v : go_V) (h : f_M_isWith_23  x1 x2 v = some r) : Go l G M_M_isWith go_Ex0 (go_E G ad 1 r 0 0) ad v [(0, .ref (ad (100))), (1, .int x1), (2, .int x2)] 23 [] 0 0 := by
  unfold f_M_isWith_23 at h
  refine go_iconst (x := (0 : Int32)) (d_M_isWith 23 rfl) (by decide) ?_
  exact go_iret (d_M_isWith 24 rfl) rfl (by decide) (Option.some.inj h) (by decide) (by decide)
def f_M_isWith (x1 : Int32) (x2 : Int32) (v : go_V) : Option go_R := gd (go_in x1 40) (br (decide ((v 116 x1.toNatClampNeg) = 0)) (f_M_isWith_23  (x1) (x2) (v)) (gd (go_in x1 40) (br (decide ((v 117 x1.toNatClampNeg) = x2)) (some (0, (1 : Int32), 0, v)) (f_M_isWith_23  (x1) (x2) (v)))))
set_option maxHeartbeats 4000000 in
set_option maxRecDepth 100000 in
theorem Ca_M_isWith {l : Launch} {G : go_G} {ad : Nat → Nat} (hl : l.stackTraces = false) {r : go_R} {x1 : Int32} {x2 : Int32} {v : go_V} (h : f_M_isWith x1 x2 v = some r) : Ca l G y_M_isWith (.code y_M_isWith c_M_isWith 3 (some .boolean) :: go_TT) (rmD 0 0) 1 ad [.ref (ad (100)), .int x1, .int x2] v r := by
  unfold f_M_isWith at h
  refine go_body (own := RM) (by decide) rfl (Nat.le_of_ble_eq_true rfl) ?_
  show Go l G M_M_isWith go_Ex0 (go_E G ad 1 r 0 0) ad v [(0, .ref (ad (100))), (1, .int x1), (2, .int x2)] 0 [] 0 0
  refine go_aload_n (d_M_isWith 0 rfl) rfl rfl ?_
  refine go_getR (d_M_isWith 1 rfl) fl_M_56 rfl rfl ?_
  show Go _ _ _ _ _ _ _ _ _ (.ref (ad (116)) :: []) _ _
  refine go_iload_n (d_M_isWith 4 rfl) rfl rfl ?_
  obtain ⟨g_1, h⟩ := gd_some h
  refine go_iald (d_M_isWith 5 rfl) rfl g_1 ?_
  rcases br_some h with ⟨c_2, h⟩ | ⟨c_2, h⟩
  · refine go_if_eq (tgt := 23) (d_M_isWith 6 rfl) (by decide) (fun _ => ?_) (fun q => absurd (of_decide_eq_true c_2) q)
    exact b_M_isWith_23 hl  (x1) (x2) (v) h
  · refine go_if_eq (tgt := 23) (d_M_isWith 6 rfl) (by decide) (fun q => absurd q (of_decide_eq_false c_2)) (fun _ => ?_)
    refine go_aload_n (d_M_isWith 9 rfl) rfl rfl ?_
    refine go_getR (d_M_isWith 10 rfl) fl_M_59 rfl rfl ?_
    show Go _ _ _ _ _ _ _ _ _ (.ref (ad (117)) :: []) _ _
    refine go_iload_n (d_M_isWith 13 rfl) rfl rfl ?_
    obtain ⟨g_3, h⟩ := gd_some h
    refine go_iald (d_M_isWith 14 rfl) rfl g_3 ?_
    refine go_iload_n (d_M_isWith 15 rfl) rfl rfl ?_
    rcases br_some h with ⟨c_4, h⟩ | ⟨c_4, h⟩
    · refine go_icmp_ne (tgt := 23) (d_M_isWith 16 rfl) (by decide) (fun q => absurd (of_decide_eq_true c_4) q) (fun _ => ?_)
      refine go_iconst (x := (1 : Int32)) (d_M_isWith 19 rfl) (by decide) ?_
      refine go_goto (tgt := 24) (d_M_isWith 20 rfl) (by decide) ?_
      exact go_iret (d_M_isWith 24 rfl) rfl (by decide) (Option.some.inj h) (by decide) (by decide)
    · refine go_icmp_ne (tgt := 23) (d_M_isWith 16 rfl) (by decide) (fun _ => ?_) (fun q => absurd q (of_decide_eq_false c_4))
      exact b_M_isWith_23 hl  (x1) (x2) (v) h
abbrev M_M_close : go_M := (c_M_close, 3, none, RM, [], rmD 3 0)
def f_M_close_58 (rec36 : Int32 → Int32 → go_V → Option go_R) (x1 : Int32) (x2 : Int32) (v : go_V) : Option go_R := rec36 (x1) ((x2 + 1)) (v)
set_option maxHeartbeats 4000000 in
set_option maxRecDepth 100000 in
theorem b_M_close_58 {l : Launch} {G : go_G} {ad : Nat → Nat} (hl : l.stackTraces = false) {r : go_R} (rec36 : Int32 → Int32 → go_V → Option go_R) (hrec36 : ∀ (x1 : Int32) (x2 : Int32) (v : go_V), rec36 x1 x2 v = some r → Go l G M_M_close go_Ex0 (go_E G ad 0 r 0 0) ad v [(0, .ref (ad (100))), (1, .int x1), (2, .int x2)] 36 [] 0 0) (x1 : Int32) (x2 : Int32) (v : go_V) (h : f_M_close_58 rec36 x1 x2 v = some r) : Go l G M_M_close go_Ex0 (go_E G ad 0 r 0 0) ad v [(0, .ref (ad (100))), (1, .int x1), (2, .int x2)] 58 [] 0 0 := by
  unfold f_M_close_58 at h
  refine go_iinc (y := (x2 + 1)) (lv' := [(0, .ref (ad (100))), (1, .int x1), (2, .int ((x2 + 1)))]) (d_M_close 58 rfl) rfl rfl (by decide) rfl ?_
  refine go_goto (tgt := 36) (d_M_close 61 rfl) (by decide) ?_
  exact hrec36 (x1) ((x2 + 1)) (v) h
def f_M_close_36  : Nat → Int32 → Int32 → go_V → Option go_R
  | 0, _, _, _ => none
  | n + 1, x1, x2, v => br (decide ((v 100 19) ≤ x2)) (some (0, 0, 0, v)) (bd (f_M_isWith x2 x1 v) (fun r_2 => nt r_2 (br (decide (r_2.2.1 = 0)) (f_M_close_58 (f_M_close_36 n) (x1) (x2) (r_2.2.2.2)) (bd (f_M_free x2 r_2.2.2.2) (fun r_6 => nt r_6 (f_M_close_58 (f_M_close_36 n) (x1) (x2) (r_6.2.2.2)))))))
set_option maxHeartbeats 4000000 in
set_option maxRecDepth 100000 in
theorem b_M_close_36 {l : Launch} {G : go_G} {ad : Nat → Nat} (hl : l.stackTraces = false) {r : go_R}  : ∀ (n : Nat) (x1 : Int32) (x2 : Int32) (v : go_V), f_M_close_36  n x1 x2 v = some r → Go l G M_M_close go_Ex0 (go_E G ad 0 r 0 0) ad v [(0, .ref (ad (100))), (1, .int x1), (2, .int x2)] 36 [] 0 0 := by
  intro n
  induction n with
  | zero =>
    intro x1 x2 v h
    cases h
  | succ n ih =>
    intro x1 x2 v h
    rw [f_M_close_36] at h
    refine go_iload_n (d_M_close 36 rfl) rfl rfl ?_
    refine go_aload_n (d_M_close 37 rfl) rfl rfl ?_
    refine go_getI (d_M_close 38 rfl) fl_M_81 rfl rfl ?_
    rcases br_some h with ⟨c_1, h⟩ | ⟨c_1, h⟩
    · refine go_icmp_ge (tgt := 64) (d_M_close 41 rfl) (by decide) (fun _ => ?_) (fun q => absurd (of_decide_eq_true c_1) q)
      exact go_vret (d_M_close 64 rfl) rfl (Option.some.inj h) (by decide) (by decide)
    · refine go_icmp_ge (tgt := 64) (d_M_close 41 rfl) (by decide) (fun q => absurd q (of_decide_eq_false c_1)) (fun _ => ?_)
      refine go_aload_n (d_M_close 44 rfl) rfl rfl ?_
      refine go_iload_n (d_M_close 45 rfl) rfl rfl ?_
      refine go_iload_n (d_M_close 46 rfl) rfl rfl ?_
      obtain ⟨r_2, o_3, h⟩ := bd_some h
      obtain ⟨z_4, h⟩ := nt_some h
      refine go_cV (As := [.int x2, .int x1]) (rest := []) (st2 := [.int (r_2.2.1)]) (c2 := 0) (s2 := 0) rfl rfl rfl rfl (Ca_M_isWith hl o_3)  (d_M_close 47 rfl) cw_M_101 ⟨w_672, w_21⟩ rfl (by decide) rfl ⟨by decide, by decide⟩ rfl (Nat.le_of_ble_eq_true rfl) ⟨by decide, by decide⟩ (fun _ => ?_) (fun q => absurd z_4 q)
      rcases br_some h with ⟨c_5, h⟩ | ⟨c_5, h⟩
      · refine go_if_eq (tgt := 58) (d_M_close 50 rfl) (by decide) (fun _ => ?_) (fun q => absurd (of_decide_eq_true c_5) q)
        exact b_M_close_58 hl _ ih (x1) (x2) (r_2.2.2.2) h
      · refine go_if_eq (tgt := 58) (d_M_close 50 rfl) (by decide) (fun q => absurd q (of_decide_eq_false c_5)) (fun _ => ?_)
        refine go_aload_n (d_M_close 53 rfl) rfl rfl ?_
        refine go_iload_n (d_M_close 54 rfl) rfl rfl ?_
        obtain ⟨r_6, o_7, h⟩ := bd_some h
        obtain ⟨z_8, h⟩ := nt_some h
        refine go_cV (As := [.int x2]) (rest := []) (st2 := []) (c2 := 0) (s2 := 0) rfl rfl rfl rfl (Ca_M_free hl o_7)  (d_M_close 55 rfl) cw_M_105 ⟨w_676, w_22⟩ rfl (by decide) rfl ⟨by decide, by decide⟩ rfl (Nat.le_of_ble_eq_true rfl) ⟨by decide, by decide⟩ (fun _ => ?_) (fun q => absurd z_8 q)
        exact b_M_close_58 hl _ ih (x1) (x2) (r_6.2.2.2) h
def f_M_close_14  (x1 : Int32) (y1 : Int32) (v : go_V) : Option go_R := bd (f_M_isClosed x1 v) (fun r_1 => nt r_1 (bd (f_M_throwing y1 r_1.2.1 (0 : Int32) r_1.2.2.2) (fun r_4 => nt r_4 (br (decide (r_4.2.1 = 0)) (gd (go_in x1 12) (ln (u2 r_4.2.2.2 107 x1.toNatClampNeg (0 : Int32)) (fun v_9 => f_M_close_36  FU (x1) ((0 : Int32)) (v_9)))) (some (0, 0, 0, r_4.2.2.2))))))
set_option maxHeartbeats 4000000 in
set_option maxRecDepth 100000 in
theorem b_M_close_14 {l : Launch} {G : go_G} {ad : Nat → Nat} (hl : l.stackTraces = false) {r : go_R}  (x1 : Int32) (y1 : Int32) (v : go_V) (h : f_M_close_14  x1 y1 v = some r) : Go l G M_M_close go_Ex0 (go_E G ad 0 r 0 0) ad v [(0, .ref (ad (100))), (1, .int x1)] 14 [.int y1, .ref (ad (100))] 0 0 := by
  unfold f_M_close_14 at h
  refine go_aload_n (d_M_close 14 rfl) rfl rfl ?_
  refine go_iload_n (d_M_close 15 rfl) rfl rfl ?_
  obtain ⟨r_1, o_2, h⟩ := bd_some h
  obtain ⟨z_3, h⟩ := nt_some h
  refine go_cV (As := [.int x1]) (rest := [.int y1, .ref (ad (100))]) (st2 := [.int (r_1.2.1), .int y1, .ref (ad (100))]) (c2 := 0) (s2 := 0) rfl rfl rfl rfl (Ca_M_isClosed hl o_2)  (d_M_close 16 rfl) cw_M_98 ⟨w_668, w_20⟩ rfl (by decide) rfl ⟨by decide, by decide⟩ rfl (Nat.le_of_ble_eq_true rfl) ⟨by decide, by decide⟩ (fun _ => ?_) (fun q => absurd z_3 q)
  refine go_iconst (x := (0 : Int32)) (d_M_close 19 rfl) (by decide) ?_
  obtain ⟨r_4, o_5, h⟩ := bd_some h
  obtain ⟨z_6, h⟩ := nt_some h
  refine go_cV (As := [.int y1, .int (r_1.2.1), .int ((0 : Int32))]) (rest := []) (st2 := [.int (r_4.2.1)]) (c2 := 0) (s2 := 0) rfl rfl rfl rfl (Ca_M_throwing hl o_5)  (d_M_close 20 rfl) cw_M_84 ⟨w_643, w_18⟩ rfl (by decide) rfl ⟨by decide, by decide⟩ rfl (Nat.le_of_ble_eq_true rfl) ⟨by decide, by decide⟩ (fun _ => ?_) (fun q => absurd z_6 q)
  rcases br_some h with ⟨c_7, h⟩ | ⟨c_7, h⟩
  · refine go_if_eq (tgt := 27) (d_M_close 23 rfl) (by decide) (fun _ => ?_) (fun q => absurd (of_decide_eq_true c_7) q)
    refine go_aload_n (d_M_close 27 rfl) rfl rfl ?_
    refine go_getR (d_M_close 28 rfl) fl_M_28 rfl rfl ?_
    show Go _ _ _ _ _ _ _ _ _ (.ref (ad (107)) :: []) _ _
    refine go_iload_n (d_M_close 31 rfl) rfl rfl ?_
    refine go_iconst (x := (0 : Int32)) (d_M_close 32 rfl) (by decide) ?_
    obtain ⟨g_8, h⟩ := gd_some h
    obtain ⟨v_9, ev_9, h⟩ := ln_some h
    refine go_zast (y := (0 : Int32)) (d_M_close 33 rfl) rfl g_8 (by decide) ?_
    rw [← ev_9]
    refine go_iconst (x := (0 : Int32)) (d_M_close 34 rfl) (by decide) ?_
    refine go_istore_n (lv' := [(0, .ref (ad (100))), (1, .int x1), (2, .int ((0 : Int32)))]) (d_M_close 35 rfl) rfl (by decide) rfl ?_
    exact b_M_close_36 hl  FU (x1) ((0 : Int32)) (v_9) h
  · refine go_if_eq (tgt := 27) (d_M_close 23 rfl) (by decide) (fun q => absurd q (of_decide_eq_false c_7)) (fun _ => ?_)
    exact go_vret (d_M_close 26 rfl) rfl (Option.some.inj h) (by decide) (by decide)
def f_M_close (x1 : Int32) (v : go_V) : Option go_R := bd (f_M_isIncident x1 v) (fun r_1 => nt r_1 (br (decide (r_1.2.1 = 0)) (f_M_close_14  (x1) ((1 : Int32)) (r_1.2.2.2)) (f_M_close_14  (x1) ((0 : Int32)) (r_1.2.2.2))))
set_option maxHeartbeats 4000000 in
set_option maxRecDepth 100000 in
theorem Ca_M_close {l : Launch} {G : go_G} {ad : Nat → Nat} (hl : l.stackTraces = false) {r : go_R} {x1 : Int32} {v : go_V} (h : f_M_close x1 v = some r) : Ca l G y_M_close (.code y_M_close c_M_close 3 none :: go_TT) (rmD 3 0) 0 ad [.ref (ad (100)), .int x1] v r := by
  unfold f_M_close at h
  refine go_body (own := RM) (by decide) rfl (Nat.le_of_ble_eq_true rfl) ?_
  show Go l G M_M_close go_Ex0 (go_E G ad 0 r 0 0) ad v [(0, .ref (ad (100))), (1, .int x1)] 0 [] 0 0
  refine go_aload_n (d_M_close 0 rfl) rfl rfl ?_
  refine go_aload_n (d_M_close 1 rfl) rfl rfl ?_
  refine go_iload_n (d_M_close 2 rfl) rfl rfl ?_
  obtain ⟨r_1, o_2, h⟩ := bd_some h
  obtain ⟨z_3, h⟩ := nt_some h
  refine go_cV (As := [.int x1]) (rest := [.ref (ad (100))]) (st2 := [.int (r_1.2.1), .ref (ad (100))]) (c2 := 0) (s2 := 0) rfl rfl rfl rfl (Ca_M_isIncident hl o_2)  (d_M_close 3 rfl) cw_M_77 ⟨w_664, w_19⟩ rfl (by decide) rfl ⟨by decide, by decide⟩ rfl (Nat.le_of_ble_eq_true rfl) ⟨by decide, by decide⟩ (fun _ => ?_) (fun q => absurd z_3 q)
  rcases br_some h with ⟨c_4, h⟩ | ⟨c_4, h⟩
  · refine go_if_ne (tgt := 13) (d_M_close 6 rfl) (by decide) (fun q => absurd (of_decide_eq_true c_4) q) (fun _ => ?_)
    refine go_iconst (x := (1 : Int32)) (d_M_close 9 rfl) (by decide) ?_
    refine go_goto (tgt := 14) (d_M_close 10 rfl) (by decide) ?_
    exact b_M_close_14 hl  (x1) ((1 : Int32)) (r_1.2.2.2) h
  · refine go_if_ne (tgt := 13) (d_M_close 6 rfl) (by decide) (fun _ => ?_) (fun q => absurd q (of_decide_eq_false c_4))
    refine go_iconst (x := (0 : Int32)) (d_M_close 13 rfl) (by decide) ?_
    exact b_M_close_14 hl  (x1) ((0 : Int32)) (r_1.2.2.2) h
abbrev M_M_act : go_M := (c_M_act, 4, (some .int), RM, [], rmD 0 0)
def f_M_act_129  (x1 : Int32) (x2 : Int32) (x3 : Int32) (v : go_V) : Option go_R := some (0, (1 : Int32), 0, v)
set_option maxHeartbeats 4000000 in
set_option maxRecDepth 100000 in
theorem b_M_act_129 {l : Launch} {G : go_G} {ad : Nat → Nat} (hl : l.stackTraces = false) {r : go_R}  (x1 : Int32) (x2 : Int32) (x3 : Int32) (v : go_V) (h : f_M_act_129  x1 x2 x3 v = some r) : Go l G M_M_act go_Ex0 (go_E G ad 1 r 0 0) ad v [(0, .ref (ad (100))), (1, .int x1), (2, .int x2), (3, .int x3)] 129 [] 0 0 := by
  unfold f_M_act_129 at h
  refine go_iconst (x := (1 : Int32)) (d_M_act 129 rfl) (by decide) ?_
  exact go_iret (d_M_act 130 rfl) rfl rfl (Option.some.inj h) (by decide) (by decide)
def f_M_act_88  (x1 : Int32) (x2 : Int32) (y0 : Int32) (v : go_V) : Option go_R := gd (go_in x2 12) (br (decide (y0 ≤ (v 108 x2.toNatClampNeg))) (ln (u2 v 100 26 ((v 100 26) + (1 : Int32))) (fun v_3 => f_M_act_129  (x1) (x2) (y0) (v_3))) (gd (go_in x2 12) (ln (u2 v 108 x2.toNatClampNeg y0) (fun v_5 => gd (go_in x2 12) (gd (go_in x2 12) (ln (u2 v_5 112 x2.toNatClampNeg ((v_5 112 x2.toNatClampNeg) + (1 : Int32))) (fun v_8 => f_M_act_129  (x1) (x2) (y0) (v_8))))))))
set_option maxHeartbeats 4000000 in
set_option maxRecDepth 100000 in
theorem b_M_act_88 {l : Launch} {G : go_G} {ad : Nat → Nat} (hl : l.stackTraces = false) {r : go_R}  (x1 : Int32) (x2 : Int32) (y0 : Int32) (v : go_V) (h : f_M_act_88  x1 x2 y0 v = some r) : Go l G M_M_act go_Ex0 (go_E G ad 1 r 0 0) ad v [(0, .ref (ad (100))), (1, .int x1), (2, .int x2)] 88 [.int y0] 0 0 := by
  unfold f_M_act_88 at h
  refine go_istore_n (lv' := [(0, .ref (ad (100))), (1, .int x1), (2, .int x2), (3, .int y0)]) (d_M_act 88 rfl) rfl (by decide) rfl ?_
  refine go_iload_n (d_M_act 89 rfl) rfl rfl ?_
  refine go_aload_n (d_M_act 90 rfl) rfl rfl ?_
  refine go_getR (d_M_act 91 rfl) fl_M_32 rfl rfl ?_
  show Go _ _ _ _ _ _ _ _ _ (.ref (ad (108)) :: .int y0 :: []) _ _
  refine go_iload_n (d_M_act 94 rfl) rfl rfl ?_
  obtain ⟨g_1, h⟩ := gd_some h
  refine go_iald (d_M_act 95 rfl) rfl g_1 ?_
  rcases br_some h with ⟨c_2, h⟩ | ⟨c_2, h⟩
  · refine go_icmp_le (tgt := 119) (d_M_act 96 rfl) (by decide) (fun _ => ?_) (fun q => absurd (of_decide_eq_true c_2) q)
    refine go_aload_n (d_M_act 119 rfl) rfl rfl ?_
    refine go_dup (d_M_act 120 rfl) rfl ?_
    refine go_getI (d_M_act 121 rfl) fl_M_109 rfl rfl ?_
    refine go_iconst (x := (1 : Int32)) (d_M_act 124 rfl) (by decide) ?_
    refine go_iadd (d_M_act 125 rfl) ?_
    obtain ⟨v_3, ev_3, h⟩ := ln_some h
    refine go_putI (x := ((v 100 26) + (1 : Int32))) (d_M_act 126 rfl) fp_M_109 rfl rfl rfl rfl ?_
    rw [← ev_3]
    exact b_M_act_129 hl  (x1) (x2) (y0) (v_3) h
  · refine go_icmp_le (tgt := 119) (d_M_act 96 rfl) (by decide) (fun q => absurd q (of_decide_eq_false c_2)) (fun _ => ?_)
    refine go_aload_n (d_M_act 99 rfl) rfl rfl ?_
    refine go_getR (d_M_act 100 rfl) fl_M_32 rfl rfl ?_
    show Go _ _ _ _ _ _ _ _ _ (.ref (ad (108)) :: []) _ _
    refine go_iload_n (d_M_act 103 rfl) rfl rfl ?_
    refine go_iload_n (d_M_act 104 rfl) rfl rfl ?_
    obtain ⟨g_4, h⟩ := gd_some h
    obtain ⟨v_5, ev_5, h⟩ := ln_some h
    refine go_iast (y := y0) (d_M_act 105 rfl) rfl g_4 ?_
    rw [← ev_5]
    refine go_aload_n (d_M_act 106 rfl) rfl rfl ?_
    refine go_getR (d_M_act 107 rfl) fl_M_44 rfl rfl ?_
    show Go _ _ _ _ _ _ _ _ _ (.ref (ad (112)) :: []) _ _
    refine go_iload_n (d_M_act 110 rfl) rfl rfl ?_
    refine go_dup2 (d_M_act 111 rfl) rfl rfl ?_
    obtain ⟨g_6, h⟩ := gd_some h
    refine go_iald (d_M_act 112 rfl) rfl g_6 ?_
    refine go_iconst (x := (1 : Int32)) (d_M_act 113 rfl) (by decide) ?_
    refine go_iadd (d_M_act 114 rfl) ?_
    obtain ⟨g_7, h⟩ := gd_some h
    obtain ⟨v_8, ev_8, h⟩ := ln_some h
    refine go_iast (y := ((v_5 112 x2.toNatClampNeg) + (1 : Int32))) (d_M_act 115 rfl) rfl g_7 ?_
    rw [← ev_8]
    refine go_goto (tgt := 129) (d_M_act 116 rfl) (by decide) ?_
    exact b_M_act_129 hl  (x1) (x2) (y0) (v_8) h
def f_M_act (x1 : Int32) (x2 : Int32) (v : go_V) : Option go_R := gd (go_in (((20 : Int32) * x2) + x1) 240) (gd (go_in x1 20) (br (decide ((v 105 x1.toNatClampNeg) ≤ ((v 100 1) - (v 114 (((20 : Int32) * x2) + x1).toNatClampNeg)))) (gd (go_in (((20 : Int32) * x2) + x1) 240) (ln (u2 v 114 (((20 : Int32) * x2) + x1).toNatClampNeg (v 100 1)) (fun v_5 => gd (go_in x1 20) (gd (go_in x1 20) (ln (u2 v_5 106 x1.toNatClampNeg ((v_5 106 x1.toNatClampNeg) + (1 : Int32))) (fun v_8 => gd (go_in x2 12) (gd (go_in x2 12) (ln (u2 v_8 111 x2.toNatClampNeg ((v_8 111 x2.toNatClampNeg) + (1 : Int32))) (fun v_11 => gd (go_in x1 20) (br (decide ((v_11 100 2) ≤ (v_11 104 x1.toNatClampNeg))) (f_M_act_88  (x1) (x2) ((v_11 100 2)) (v_11)) (gd (go_in x1 20) (f_M_act_88  (x1) (x2) ((v_11 104 x1.toNatClampNeg)) (v_11))))))))))))) (some (0, (0 : Int32), 0, v))))
set_option maxHeartbeats 4000000 in
set_option maxRecDepth 100000 in
theorem Ca_M_act {l : Launch} {G : go_G} {ad : Nat → Nat} (hl : l.stackTraces = false) {r : go_R} {x1 : Int32} {x2 : Int32} {v : go_V} (h : f_M_act x1 x2 v = some r) : Ca l G y_M_act (.code y_M_act c_M_act 4 (some .int) :: go_TT) (rmD 0 0) 1 ad [.ref (ad (100)), .int x1, .int x2] v r := by
  unfold f_M_act at h
  refine go_body (own := RM) (by decide) rfl (Nat.le_of_ble_eq_true rfl) ?_
  show Go l G M_M_act go_Ex0 (go_E G ad 1 r 0 0) ad v [(0, .ref (ad (100))), (1, .int x1), (2, .int x2)] 0 [] 0 0
  refine go_aload_n (d_M_act 0 rfl) rfl rfl ?_
  refine go_getI (d_M_act 1 rfl) fl_M_95 rfl rfl ?_
  refine go_aload_n (d_M_act 4 rfl) rfl rfl ?_
  refine go_getR (d_M_act 5 rfl) fl_M_50 rfl rfl ?_
  show Go _ _ _ _ _ _ _ _ _ (.ref (ad (114)) :: .int ((v 100 1)) :: []) _ _
  refine go_bipush (x := (20 : Int32)) (d_M_act 8 rfl) (by decide) ?_
  refine go_iload_n (d_M_act 10 rfl) rfl rfl ?_
  refine go_imul (d_M_act 11 rfl) ?_
  refine go_iload_n (d_M_act 12 rfl) rfl rfl ?_
  refine go_iadd (d_M_act 13 rfl) ?_
  obtain ⟨g_1, h⟩ := gd_some h
  refine go_iald (d_M_act 14 rfl) rfl g_1 ?_
  refine go_isub (d_M_act 15 rfl) ?_
  refine go_aload_n (d_M_act 16 rfl) rfl rfl ?_
  refine go_getR (d_M_act 17 rfl) fl_M_22 rfl rfl ?_
  show Go _ _ _ _ _ _ _ _ _ (.ref (ad (105)) :: .int (((v 100 1) - (v 114 (((20 : Int32) * x2) + x1).toNatClampNeg))) :: []) _ _
  refine go_iload_n (d_M_act 20 rfl) rfl rfl ?_
  obtain ⟨g_2, h⟩ := gd_some h
  refine go_iald (d_M_act 21 rfl) rfl g_2 ?_
  rcases br_some h with ⟨c_3, h⟩ | ⟨c_3, h⟩
  · refine go_icmp_ge (tgt := 27) (d_M_act 22 rfl) (by decide) (fun _ => ?_) (fun q => absurd (of_decide_eq_true c_3) q)
    refine go_aload_n (d_M_act 27 rfl) rfl rfl ?_
    refine go_getR (d_M_act 28 rfl) fl_M_50 rfl rfl ?_
    show Go _ _ _ _ _ _ _ _ _ (.ref (ad (114)) :: []) _ _
    refine go_bipush (x := (20 : Int32)) (d_M_act 31 rfl) (by decide) ?_
    refine go_iload_n (d_M_act 33 rfl) rfl rfl ?_
    refine go_imul (d_M_act 34 rfl) ?_
    refine go_iload_n (d_M_act 35 rfl) rfl rfl ?_
    refine go_iadd (d_M_act 36 rfl) ?_
    refine go_aload_n (d_M_act 37 rfl) rfl rfl ?_
    refine go_getI (d_M_act 38 rfl) fl_M_95 rfl rfl ?_
    obtain ⟨g_4, h⟩ := gd_some h
    obtain ⟨v_5, ev_5, h⟩ := ln_some h
    refine go_iast (y := (v 100 1)) (d_M_act 41 rfl) rfl g_4 ?_
    rw [← ev_5]
    refine go_aload_n (d_M_act 42 rfl) rfl rfl ?_
    refine go_getR (d_M_act 43 rfl) fl_M_25 rfl rfl ?_
    show Go _ _ _ _ _ _ _ _ _ (.ref (ad (106)) :: []) _ _
    refine go_iload_n (d_M_act 46 rfl) rfl rfl ?_
    refine go_dup2 (d_M_act 47 rfl) rfl rfl ?_
    obtain ⟨g_6, h⟩ := gd_some h
    refine go_iald (d_M_act 48 rfl) rfl g_6 ?_
    refine go_iconst (x := (1 : Int32)) (d_M_act 49 rfl) (by decide) ?_
    refine go_iadd (d_M_act 50 rfl) ?_
    obtain ⟨g_7, h⟩ := gd_some h
    obtain ⟨v_8, ev_8, h⟩ := ln_some h
    refine go_iast (y := ((v_5 106 x1.toNatClampNeg) + (1 : Int32))) (d_M_act 51 rfl) rfl g_7 ?_
    rw [← ev_8]
    refine go_aload_n (d_M_act 52 rfl) rfl rfl ?_
    refine go_getR (d_M_act 53 rfl) fl_M_41 rfl rfl ?_
    show Go _ _ _ _ _ _ _ _ _ (.ref (ad (111)) :: []) _ _
    refine go_iload_n (d_M_act 56 rfl) rfl rfl ?_
    refine go_dup2 (d_M_act 57 rfl) rfl rfl ?_
    obtain ⟨g_9, h⟩ := gd_some h
    refine go_iald (d_M_act 58 rfl) rfl g_9 ?_
    refine go_iconst (x := (1 : Int32)) (d_M_act 59 rfl) (by decide) ?_
    refine go_iadd (d_M_act 60 rfl) ?_
    obtain ⟨g_10, h⟩ := gd_some h
    obtain ⟨v_11, ev_11, h⟩ := ln_some h
    refine go_iast (y := ((v_8 111 x2.toNatClampNeg) + (1 : Int32))) (d_M_act 61 rfl) rfl g_10 ?_
    rw [← ev_11]
    refine go_aload_n (d_M_act 62 rfl) rfl rfl ?_
    refine go_getR (d_M_act 63 rfl) fl_M_19 rfl rfl ?_
    show Go _ _ _ _ _ _ _ _ _ (.ref (ad (104)) :: []) _ _
    refine go_iload_n (d_M_act 66 rfl) rfl rfl ?_
    obtain ⟨g_12, h⟩ := gd_some h
    refine go_iald (d_M_act 67 rfl) rfl g_12 ?_
    refine go_aload_n (d_M_act 68 rfl) rfl rfl ?_
    refine go_getI (d_M_act 69 rfl) fl_M_88 rfl rfl ?_
    rcases br_some h with ⟨c_13, h⟩ | ⟨c_13, h⟩
    · refine go_icmp_ge (tgt := 84) (d_M_act 72 rfl) (by decide) (fun _ => ?_) (fun q => absurd (of_decide_eq_true c_13) q)
      refine go_aload_n (d_M_act 84 rfl) rfl rfl ?_
      refine go_getI (d_M_act 85 rfl) fl_M_88 rfl rfl ?_
      exact b_M_act_88 hl  (x1) (x2) ((v_11 100 2)) (v_11) h
    · refine go_icmp_ge (tgt := 84) (d_M_act 72 rfl) (by decide) (fun q => absurd q (of_decide_eq_false c_13)) (fun _ => ?_)
      refine go_aload_n (d_M_act 75 rfl) rfl rfl ?_
      refine go_getR (d_M_act 76 rfl) fl_M_19 rfl rfl ?_
      show Go _ _ _ _ _ _ _ _ _ (.ref (ad (104)) :: []) _ _
      refine go_iload_n (d_M_act 79 rfl) rfl rfl ?_
      obtain ⟨g_14, h⟩ := gd_some h
      refine go_iald (d_M_act 80 rfl) rfl g_14 ?_
      refine go_goto (tgt := 88) (d_M_act 81 rfl) (by decide) ?_
      exact b_M_act_88 hl  (x1) (x2) ((v_11 104 x1.toNatClampNeg)) (v_11) h
  · refine go_icmp_ge (tgt := 27) (d_M_act 22 rfl) (by decide) (fun q => absurd q (of_decide_eq_false c_3)) (fun _ => ?_)
    refine go_iconst (x := (0 : Int32)) (d_M_act 25 rfl) (by decide) ?_
    exact go_iret (d_M_act 26 rfl) rfl rfl (Option.some.inj h) (by decide) (by decide)
abbrev M_M_all : go_M := (c_M_all, 6, (some .int), RM, [], rmD 1 0)
def f_M_all_50 (rec6 : Int32 → Int32 → Int32 → Int32 → Int32 → go_V → Option go_R) (x1 : Int32) (x2 : Int32) (x3 : Int32) (x4 : Int32) (x5 : Int32) (y0 : Int32) (y1 : Int32) (v : go_V) : Option go_R := rec6 (x1) (x2) (x3) ((y0 + y1)) ((x5 + 1)) (v)
set_option maxHeartbeats 4000000 in
set_option maxRecDepth 100000 in
theorem b_M_all_50 {l : Launch} {G : go_G} {ad : Nat → Nat} (hl : l.stackTraces = false) {r : go_R} (rec6 : Int32 → Int32 → Int32 → Int32 → Int32 → go_V → Option go_R) (hrec6 : ∀ (x1 : Int32) (x2 : Int32) (x3 : Int32) (x4 : Int32) (x5 : Int32) (v : go_V), rec6 x1 x2 x3 x4 x5 v = some r → Go l G M_M_all go_Ex0 (go_E G ad 1 r 0 0) ad v [(0, .ref (ad (100))), (1, .int x1), (2, .int x2), (3, .int x3), (4, .int x4), (5, .int x5)] 6 [] 0 0) (x1 : Int32) (x2 : Int32) (x3 : Int32) (x4 : Int32) (x5 : Int32) (y0 : Int32) (y1 : Int32) (v : go_V) (h : f_M_all_50 rec6 x1 x2 x3 x4 x5 y0 y1 v = some r) : Go l G M_M_all go_Ex0 (go_E G ad 1 r 0 0) ad v [(0, .ref (ad (100))), (1, .int x1), (2, .int x2), (3, .int x3), (4, .int x4), (5, .int x5)] 50 [.int y1, .int y0] 0 0 := by
  unfold f_M_all_50 at h
  refine go_iadd (d_M_all 50 rfl) ?_
  refine go_istore (lv' := [(0, .ref (ad (100))), (1, .int x1), (2, .int x2), (3, .int x3), (4, .int ((y0 + y1))), (5, .int x5)]) (d_M_all 51 rfl) (by decide) rfl ?_
  refine go_iinc (y := (x5 + 1)) (lv' := [(0, .ref (ad (100))), (1, .int x1), (2, .int x2), (3, .int x3), (4, .int ((y0 + y1))), (5, .int ((x5 + 1)))]) (d_M_all 53 rfl) rfl rfl (by decide) rfl ?_
  refine go_goto (tgt := 6) (d_M_all 56 rfl) (by decide) ?_
  exact hrec6 (x1) (x2) (x3) ((y0 + y1)) ((x5 + 1)) (v) h
def f_M_all_49 (rec6 : Int32 → Int32 → Int32 → Int32 → Int32 → go_V → Option go_R) (x1 : Int32) (x2 : Int32) (x3 : Int32) (x4 : Int32) (x5 : Int32) (y0 : Int32) (v : go_V) : Option go_R := f_M_all_50 (rec6) (x1) (x2) (x3) (x4) (x5) (y0) ((0 : Int32)) (v)
set_option maxHeartbeats 4000000 in
set_option maxRecDepth 100000 in
theorem b_M_all_49 {l : Launch} {G : go_G} {ad : Nat → Nat} (hl : l.stackTraces = false) {r : go_R} (rec6 : Int32 → Int32 → Int32 → Int32 → Int32 → go_V → Option go_R) (hrec6 : ∀ (x1 : Int32) (x2 : Int32) (x3 : Int32) (x4 : Int32) (x5 : Int32) (v : go_V), rec6 x1 x2 x3 x4 x5 v = some r → Go l G M_M_all go_Ex0 (go_E G ad 1 r 0 0) ad v [(0, .ref (ad (100))), (1, .int x1), (2, .int x2), (3, .int x3), (4, .int x4), (5, .int x5)] 6 [] 0 0) (x1 : Int32) (x2 : Int32) (x3 : Int32) (x4 : Int32) (x5 : Int32) (y0 : Int32) (v : go_V) (h : f_M_all_49 rec6 x1 x2 x3 x4 x5 y0 v = some r) : Go l G M_M_all go_Ex0 (go_E G ad 1 r 0 0) ad v [(0, .ref (ad (100))), (1, .int x1), (2, .int x2), (3, .int x3), (4, .int x4), (5, .int x5)] 49 [.int y0] 0 0 := by
  unfold f_M_all_49 at h
  refine go_iconst (x := (0 : Int32)) (d_M_all 49 rfl) (by decide) ?_
  exact b_M_all_50 hl _ hrec6 (x1) (x2) (x3) (x4) (x5) (y0) ((0 : Int32)) (v) h
def f_M_all_6  : Nat → Int32 → Int32 → Int32 → Int32 → Int32 → go_V → Option go_R
  | 0, _, _, _, _, _, _ => none
  | n + 1, x1, x2, x3, x4, x5, v => br (decide ((v 100 4) ≤ x5)) (some (0, x4, 0, v)) (gd (go_in x5 20) (br (decide ((v 102 x5.toNatClampNeg) = x1)) (gd (go_in x5 20) (br (decide ((v 103 x5.toNatClampNeg) = x2)) (bd (f_M_act x5 x3 v) (fun r_6 => nt r_6 (f_M_all_50 (f_M_all_6 n) (x1) (x2) (x3) (x4) (x5) (x4) (r_6.2.1) (r_6.2.2.2)))) (f_M_all_49 (f_M_all_6 n) (x1) (x2) (x3) (x4) (x5) (x4) (v)))) (f_M_all_49 (f_M_all_6 n) (x1) (x2) (x3) (x4) (x5) (x4) (v))))
set_option maxHeartbeats 4000000 in
set_option maxRecDepth 100000 in
theorem b_M_all_6 {l : Launch} {G : go_G} {ad : Nat → Nat} (hl : l.stackTraces = false) {r : go_R}  : ∀ (n : Nat) (x1 : Int32) (x2 : Int32) (x3 : Int32) (x4 : Int32) (x5 : Int32) (v : go_V), f_M_all_6  n x1 x2 x3 x4 x5 v = some r → Go l G M_M_all go_Ex0 (go_E G ad 1 r 0 0) ad v [(0, .ref (ad (100))), (1, .int x1), (2, .int x2), (3, .int x3), (4, .int x4), (5, .int x5)] 6 [] 0 0 := by
  intro n
  induction n with
  | zero =>
    intro x1 x2 x3 x4 x5 v h
    cases h
  | succ n ih =>
    intro x1 x2 x3 x4 x5 v h
    rw [f_M_all_6] at h
    refine go_iload (d_M_all 6 rfl) rfl ?_
    refine go_aload_n (d_M_all 8 rfl) rfl rfl ?_
    refine go_getI (d_M_all 9 rfl) fl_M_92 rfl rfl ?_
    rcases br_some h with ⟨c_1, h⟩ | ⟨c_1, h⟩
    · refine go_icmp_ge (tgt := 59) (d_M_all 12 rfl) (by decide) (fun _ => ?_) (fun q => absurd (of_decide_eq_true c_1) q)
      refine go_iload (d_M_all 59 rfl) rfl ?_
      exact go_iret (d_M_all 61 rfl) rfl rfl (Option.some.inj h) (by decide) (by decide)
    · refine go_icmp_ge (tgt := 59) (d_M_all 12 rfl) (by decide) (fun q => absurd q (of_decide_eq_false c_1)) (fun _ => ?_)
      refine go_iload (d_M_all 15 rfl) rfl ?_
      refine go_aload_n (d_M_all 17 rfl) rfl rfl ?_
      refine go_getR (d_M_all 18 rfl) fl_M_13 rfl rfl ?_
      show Go _ _ _ _ _ _ _ _ _ (.ref (ad (102)) :: .int x4 :: []) _ _
      refine go_iload (d_M_all 21 rfl) rfl ?_
      obtain ⟨g_2, h⟩ := gd_some h
      refine go_iald (d_M_all 23 rfl) rfl g_2 ?_
      refine go_iload_n (d_M_all 24 rfl) rfl rfl ?_
      rcases br_some h with ⟨c_3, h⟩ | ⟨c_3, h⟩
      · refine go_icmp_ne (tgt := 49) (d_M_all 25 rfl) (by decide) (fun q => absurd (of_decide_eq_true c_3) q) (fun _ => ?_)
        refine go_aload_n (d_M_all 28 rfl) rfl rfl ?_
        refine go_getR (d_M_all 29 rfl) fl_M_16 rfl rfl ?_
        show Go _ _ _ _ _ _ _ _ _ (.ref (ad (103)) :: .int x4 :: []) _ _
        refine go_iload (d_M_all 32 rfl) rfl ?_
        obtain ⟨g_4, h⟩ := gd_some h
        refine go_iald (d_M_all 34 rfl) rfl g_4 ?_
        refine go_iload_n (d_M_all 35 rfl) rfl rfl ?_
        rcases br_some h with ⟨c_5, h⟩ | ⟨c_5, h⟩
        · refine go_icmp_ne (tgt := 49) (d_M_all 36 rfl) (by decide) (fun q => absurd (of_decide_eq_true c_5) q) (fun _ => ?_)
          refine go_aload_n (d_M_all 39 rfl) rfl rfl ?_
          refine go_iload (d_M_all 40 rfl) rfl ?_
          refine go_iload_n (d_M_all 42 rfl) rfl rfl ?_
          obtain ⟨r_6, o_7, h⟩ := bd_some h
          obtain ⟨z_8, h⟩ := nt_some h
          refine go_cV (As := [.int x5, .int x3]) (rest := [.int x4]) (st2 := [.int (r_6.2.1), .int x4]) (c2 := 0) (s2 := 0) rfl rfl rfl rfl (Ca_M_act hl o_7)  (d_M_all 43 rfl) cw_M_112 ⟨w_689, w_24⟩ rfl (by decide) rfl ⟨by decide, by decide⟩ rfl (Nat.le_of_ble_eq_true rfl) ⟨by decide, by decide⟩ (fun _ => ?_) (fun q => absurd z_8 q)
          refine go_goto (tgt := 50) (d_M_all 46 rfl) (by decide) ?_
          exact b_M_all_50 hl _ ih (x1) (x2) (x3) (x4) (x5) (x4) (r_6.2.1) (r_6.2.2.2) h
        · refine go_icmp_ne (tgt := 49) (d_M_all 36 rfl) (by decide) (fun _ => ?_) (fun q => absurd q (of_decide_eq_false c_5))
          exact b_M_all_49 hl _ ih (x1) (x2) (x3) (x4) (x5) (x4) (v) h
      · refine go_icmp_ne (tgt := 49) (d_M_all 25 rfl) (by decide) (fun _ => ?_) (fun q => absurd q (of_decide_eq_false c_3))
        exact b_M_all_49 hl _ ih (x1) (x2) (x3) (x4) (x5) (x4) (v) h
def f_M_all (x1 : Int32) (x2 : Int32) (x3 : Int32) (v : go_V) : Option go_R := f_M_all_6  FU (x1) (x2) (x3) ((0 : Int32)) ((0 : Int32)) (v)
set_option maxHeartbeats 4000000 in
set_option maxRecDepth 100000 in
theorem Ca_M_all {l : Launch} {G : go_G} {ad : Nat → Nat} (hl : l.stackTraces = false) {r : go_R} {x1 : Int32} {x2 : Int32} {x3 : Int32} {v : go_V} (h : f_M_all x1 x2 x3 v = some r) : Ca l G y_M_all (.code y_M_all c_M_all 6 (some .int) :: go_TT) (rmD 1 0) 1 ad [.ref (ad (100)), .int x1, .int x2, .int x3] v r := by
  unfold f_M_all at h
  refine go_body (own := RM) (by decide) rfl (Nat.le_of_ble_eq_true rfl) ?_
  show Go l G M_M_all go_Ex0 (go_E G ad 1 r 0 0) ad v [(0, .ref (ad (100))), (1, .int x1), (2, .int x2), (3, .int x3)] 0 [] 0 0
  refine go_iconst (x := (0 : Int32)) (d_M_all 0 rfl) (by decide) ?_
  refine go_istore (lv' := [(0, .ref (ad (100))), (1, .int x1), (2, .int x2), (3, .int x3), (4, .int ((0 : Int32)))]) (d_M_all 1 rfl) (by decide) rfl ?_
  refine go_iconst (x := (0 : Int32)) (d_M_all 3 rfl) (by decide) ?_
  refine go_istore (lv' := [(0, .ref (ad (100))), (1, .int x1), (2, .int x2), (3, .int x3), (4, .int ((0 : Int32))), (5, .int ((0 : Int32)))]) (d_M_all 4 rfl) (by decide) rfl ?_
  exact b_M_all_6 hl  FU (x1) (x2) (x3) ((0 : Int32)) ((0 : Int32)) (v) h
abbrev M_M_tick : go_M := (c_M_tick, 5, (some .int), RM, [], rmD 2 0)
def f_M_tick_103 (rec42 : Int32 → Int32 → Int32 → go_V → Option go_R) (rec60 : Int32 → Int32 → Int32 → Int32 → go_V → Option go_R) (x1 : Int32) (x2 : Int32) (x3 : Int32) (x4 : Int32) (y0 : Int32) (y1 : Int32) (v : go_V) : Option go_R := rec60 (x1) ((y0 + y1)) (x3) ((x4 + 1)) (v)
set_option maxHeartbeats 4000000 in
set_option maxRecDepth 100000 in
theorem b_M_tick_103 {l : Launch} {G : go_G} {ad : Nat → Nat} (hl : l.stackTraces = false) {r : go_R} (rec42 : Int32 → Int32 → Int32 → go_V → Option go_R) (hrec42 : ∀ (x1 : Int32) (x2 : Int32) (x3 : Int32) (v : go_V), rec42 x1 x2 x3 v = some r → Go l G M_M_tick go_Ex0 (go_E G ad 1 r 0 0) ad v [(0, .ref (ad (100))), (1, .int x1), (2, .int x2), (3, .int x3)] 42 [] 0 0) (rec60 : Int32 → Int32 → Int32 → Int32 → go_V → Option go_R) (hrec60 : ∀ (x1 : Int32) (x2 : Int32) (x3 : Int32) (x4 : Int32) (v : go_V), rec60 x1 x2 x3 x4 v = some r → Go l G M_M_tick go_Ex0 (go_E G ad 1 r 0 0) ad v [(0, .ref (ad (100))), (1, .int x1), (2, .int x2), (3, .int x3), (4, .int x4)] 60 [] 0 0) (x1 : Int32) (x2 : Int32) (x3 : Int32) (x4 : Int32) (y0 : Int32) (y1 : Int32) (v : go_V) (h : f_M_tick_103 rec42 rec60 x1 x2 x3 x4 y0 y1 v = some r) : Go l G M_M_tick go_Ex0 (go_E G ad 1 r 0 0) ad v [(0, .ref (ad (100))), (1, .int x1), (2, .int x2), (3, .int x3), (4, .int x4)] 103 [.int y1, .int y0] 0 0 := by
  unfold f_M_tick_103 at h
  refine go_iadd (d_M_tick 103 rfl) ?_
  refine go_istore_n (lv' := [(0, .ref (ad (100))), (1, .int x1), (2, .int ((y0 + y1))), (3, .int x3), (4, .int x4)]) (d_M_tick 104 rfl) rfl (by decide) rfl ?_
  refine go_iinc (y := (x4 + 1)) (lv' := [(0, .ref (ad (100))), (1, .int x1), (2, .int ((y0 + y1))), (3, .int x3), (4, .int ((x4 + 1)))]) (d_M_tick 105 rfl) rfl rfl (by decide) rfl ?_
  refine go_goto (tgt := 60) (d_M_tick 108 rfl) (by decide) ?_
  exact hrec60 (x1) ((y0 + y1)) (x3) ((x4 + 1)) (v) h
def f_M_tick_60 (rec42 : Int32 → Int32 → Int32 → go_V → Option go_R) : Nat → Int32 → Int32 → Int32 → Int32 → go_V → Option go_R
  | 0, _, _, _, _, _ => none
  | n + 1, x1, x2, x3, x4, v => br (decide ((v 100 10) ≤ x4)) (rec42 (x1) (x2) ((x3 + 1)) (v)) (gd (go_in x4 12) (br (decide ((v 107 x4.toNatClampNeg) = 0)) (f_M_tick_103 (rec42) (f_M_tick_60 rec42 n) (x1) (x2) (x3) (x4) (x2) ((0 : Int32)) (v)) (gd (go_in x4 12) (bd (f_M_all (2 : Int32) ((v 100 1) - (v 110 x4.toNatClampNeg)) x4 v) (fun r_5 => nt r_5 (f_M_tick_103 (rec42) (f_M_tick_60 rec42 n) (x1) (x2) (x3) (x4) (x2) (r_5.2.1) (r_5.2.2.2)))))))
set_option maxHeartbeats 4000000 in
set_option maxRecDepth 100000 in
theorem b_M_tick_60 {l : Launch} {G : go_G} {ad : Nat → Nat} (hl : l.stackTraces = false) {r : go_R} (rec42 : Int32 → Int32 → Int32 → go_V → Option go_R) (hrec42 : ∀ (x1 : Int32) (x2 : Int32) (x3 : Int32) (v : go_V), rec42 x1 x2 x3 v = some r → Go l G M_M_tick go_Ex0 (go_E G ad 1 r 0 0) ad v [(0, .ref (ad (100))), (1, .int x1), (2, .int x2), (3, .int x3)] 42 [] 0 0) : ∀ (n : Nat) (x1 : Int32) (x2 : Int32) (x3 : Int32) (x4 : Int32) (v : go_V), f_M_tick_60 rec42 n x1 x2 x3 x4 v = some r → Go l G M_M_tick go_Ex0 (go_E G ad 1 r 0 0) ad v [(0, .ref (ad (100))), (1, .int x1), (2, .int x2), (3, .int x3), (4, .int x4)] 60 [] 0 0 := by
  intro n
  induction n with
  | zero =>
    intro x1 x2 x3 x4 v h
    cases h
  | succ n ih =>
    intro x1 x2 x3 x4 v h
    rw [f_M_tick_60] at h
    refine go_iload (d_M_tick 60 rfl) rfl ?_
    refine go_aload_n (d_M_tick 62 rfl) rfl rfl ?_
    refine go_getI (d_M_tick 63 rfl) fl_M_70 rfl rfl ?_
    rcases br_some h with ⟨c_1, h⟩ | ⟨c_1, h⟩
    · refine go_icmp_ge (tgt := 111) (d_M_tick 66 rfl) (by decide) (fun _ => ?_) (fun q => absurd (of_decide_eq_true c_1) q)
      refine go_iinc (y := (x3 + 1)) (lv' := [(0, .ref (ad (100))), (1, .int x1), (2, .int x2), (3, .int ((x3 + 1))), (4, .int x4)]) (d_M_tick 111 rfl) rfl rfl (by decide) rfl ?_
      refine go_goto (tgt := 42) (d_M_tick 114 rfl) (by decide) ?_
      refine go_sub (lv' := [(0, .ref (ad (100))), (1, .int x1), (2, .int x2), (3, .int ((x3 + 1)))]) ⟨rfl, rfl, rfl, rfl, trivial⟩ ?_
      exact hrec42 (x1) (x2) ((x3 + 1)) (v) h
    · refine go_icmp_ge (tgt := 111) (d_M_tick 66 rfl) (by decide) (fun q => absurd q (of_decide_eq_false c_1)) (fun _ => ?_)
      refine go_iload_n (d_M_tick 69 rfl) rfl rfl ?_
      refine go_aload_n (d_M_tick 70 rfl) rfl rfl ?_
      refine go_getR (d_M_tick 71 rfl) fl_M_28 rfl rfl ?_
      show Go _ _ _ _ _ _ _ _ _ (.ref (ad (107)) :: .int x2 :: []) _ _
      refine go_iload (d_M_tick 74 rfl) rfl ?_
      obtain ⟨g_2, h⟩ := gd_some h
      refine go_zald (d_M_tick 76 rfl) rfl g_2 ?_
      rcases br_some h with ⟨c_3, h⟩ | ⟨c_3, h⟩
      · refine go_if_eq (tgt := 102) (d_M_tick 77 rfl) (by decide) (fun _ => ?_) (fun q => absurd (of_decide_eq_true c_3) q)
        refine go_iconst (x := (0 : Int32)) (d_M_tick 102 rfl) (by decide) ?_
        exact b_M_tick_103 hl _ hrec42 _ ih (x1) (x2) (x3) (x4) (x2) ((0 : Int32)) (v) h
      · refine go_if_eq (tgt := 102) (d_M_tick 77 rfl) (by decide) (fun q => absurd q (of_decide_eq_false c_3)) (fun _ => ?_)
        refine go_aload_n (d_M_tick 80 rfl) rfl rfl ?_
        refine go_iconst (x := (2 : Int32)) (d_M_tick 81 rfl) (by decide) ?_
        refine go_aload_n (d_M_tick 82 rfl) rfl rfl ?_
        refine go_getI (d_M_tick 83 rfl) fl_M_95 rfl rfl ?_
        refine go_aload_n (d_M_tick 86 rfl) rfl rfl ?_
        refine go_getR (d_M_tick 87 rfl) fl_M_38 rfl rfl ?_
        show Go _ _ _ _ _ _ _ _ _ (.ref (ad (110)) :: .int ((v 100 1)) :: .int ((2 : Int32)) :: .ref (ad (100)) :: .int x2 :: []) _ _
        refine go_iload (d_M_tick 90 rfl) rfl ?_
        obtain ⟨g_4, h⟩ := gd_some h
        refine go_iald (d_M_tick 92 rfl) rfl g_4 ?_
        refine go_isub (d_M_tick 93 rfl) ?_
        refine go_iload (d_M_tick 94 rfl) rfl ?_
        obtain ⟨r_5, o_6, h⟩ := bd_some h
        obtain ⟨z_7, h⟩ := nt_some h
        refine go_cV (As := [.int ((2 : Int32)), .int (((v 100 1) - (v 110 x4.toNatClampNeg))), .int x4]) (rest := [.int x2]) (st2 := [.int (r_5.2.1), .int x2]) (c2 := 0) (s2 := 0) rfl rfl rfl rfl (Ca_M_all hl o_6)  (d_M_tick 96 rfl) cw_M_117 ⟨w_685, w_23⟩ rfl (by decide) rfl ⟨by decide, by decide⟩ rfl (Nat.le_of_ble_eq_true rfl) ⟨by decide, by decide⟩ (fun _ => ?_) (fun q => absurd z_7 q)
        refine go_goto (tgt := 103) (d_M_tick 99 rfl) (by decide) ?_
        exact b_M_tick_103 hl _ hrec42 _ ih (x1) (x2) (x3) (x4) (x2) (r_5.2.1) (r_5.2.2.2) h
def f_M_tick_42  : Nat → Int32 → Int32 → Int32 → go_V → Option go_R
  | 0, _, _, _, _ => none
  | n + 1, x1, x2, x3, v => br (decide (x1 ≤ x3)) (some (0, x2, 0, v)) (ln (u2 v 100 1 ((v 100 1) + (1 : Int32))) (fun v_2 => f_M_tick_60 (f_M_tick_42 n) FU (x1) (x2) (x3) ((0 : Int32)) (v_2)))
set_option maxHeartbeats 4000000 in
set_option maxRecDepth 100000 in
theorem b_M_tick_42 {l : Launch} {G : go_G} {ad : Nat → Nat} (hl : l.stackTraces = false) {r : go_R}  : ∀ (n : Nat) (x1 : Int32) (x2 : Int32) (x3 : Int32) (v : go_V), f_M_tick_42  n x1 x2 x3 v = some r → Go l G M_M_tick go_Ex0 (go_E G ad 1 r 0 0) ad v [(0, .ref (ad (100))), (1, .int x1), (2, .int x2), (3, .int x3)] 42 [] 0 0 := by
  intro n
  induction n with
  | zero =>
    intro x1 x2 x3 v h
    cases h
  | succ n ih =>
    intro x1 x2 x3 v h
    rw [f_M_tick_42] at h
    refine go_iload_n (d_M_tick 42 rfl) rfl rfl ?_
    refine go_iload_n (d_M_tick 43 rfl) rfl rfl ?_
    rcases br_some h with ⟨c_1, h⟩ | ⟨c_1, h⟩
    · refine go_icmp_ge (tgt := 117) (d_M_tick 44 rfl) (by decide) (fun _ => ?_) (fun q => absurd (of_decide_eq_true c_1) q)
      refine go_iload_n (d_M_tick 117 rfl) rfl rfl ?_
      exact go_iret (d_M_tick 118 rfl) rfl rfl (Option.some.inj h) (by decide) (by decide)
    · refine go_icmp_ge (tgt := 117) (d_M_tick 44 rfl) (by decide) (fun q => absurd q (of_decide_eq_false c_1)) (fun _ => ?_)
      refine go_aload_n (d_M_tick 47 rfl) rfl rfl ?_
      refine go_dup (d_M_tick 48 rfl) rfl ?_
      refine go_getI (d_M_tick 49 rfl) fl_M_95 rfl rfl ?_
      refine go_iconst (x := (1 : Int32)) (d_M_tick 52 rfl) (by decide) ?_
      refine go_iadd (d_M_tick 53 rfl) ?_
      obtain ⟨v_2, ev_2, h⟩ := ln_some h
      refine go_putI (x := ((v 100 1) + (1 : Int32))) (d_M_tick 54 rfl) fp_M_95 rfl rfl rfl rfl ?_
      rw [← ev_2]
      refine go_iconst (x := (0 : Int32)) (d_M_tick 57 rfl) (by decide) ?_
      refine go_istore (lv' := [(0, .ref (ad (100))), (1, .int x1), (2, .int x2), (3, .int x3), (4, .int ((0 : Int32)))]) (d_M_tick 58 rfl) (by decide) rfl ?_
      exact b_M_tick_60 hl _ ih FU (x1) (x2) (x3) ((0 : Int32)) (v_2) h
def f_M_tick_28  (x1 : Int32) (y1 : Int32) (v : go_V) : Option go_R := bd (f_M_throwing y1 (0 : Int32) (0 : Int32) v) (fun r_1 => nt r_1 (br (decide (r_1.2.1 = 0)) (f_M_tick_42  FU (x1) ((0 : Int32)) ((0 : Int32)) (r_1.2.2.2)) (some (0, (0 : Int32), 0, r_1.2.2.2))))
set_option maxHeartbeats 4000000 in
set_option maxRecDepth 100000 in
theorem b_M_tick_28 {l : Launch} {G : go_G} {ad : Nat → Nat} (hl : l.stackTraces = false) {r : go_R}  (x1 : Int32) (y1 : Int32) (v : go_V) (h : f_M_tick_28  x1 y1 v = some r) : Go l G M_M_tick go_Ex0 (go_E G ad 1 r 0 0) ad v [(0, .ref (ad (100))), (1, .int x1)] 28 [.int y1, .ref (ad (100))] 0 0 := by
  unfold f_M_tick_28 at h
  refine go_iconst (x := (0 : Int32)) (d_M_tick 28 rfl) (by decide) ?_
  refine go_iconst (x := (0 : Int32)) (d_M_tick 29 rfl) (by decide) ?_
  obtain ⟨r_1, o_2, h⟩ := bd_some h
  obtain ⟨z_3, h⟩ := nt_some h
  refine go_cV (As := [.int y1, .int ((0 : Int32)), .int ((0 : Int32))]) (rest := []) (st2 := [.int (r_1.2.1)]) (c2 := 0) (s2 := 0) rfl rfl rfl rfl (Ca_M_throwing hl o_2)  (d_M_tick 30 rfl) cw_M_84 ⟨w_643, w_18⟩ rfl (by decide) rfl ⟨by decide, by decide⟩ rfl (Nat.le_of_ble_eq_true rfl) ⟨by decide, by decide⟩ (fun _ => ?_) (fun q => absurd z_3 q)
  rcases br_some h with ⟨c_4, h⟩ | ⟨c_4, h⟩
  · refine go_if_eq (tgt := 38) (d_M_tick 33 rfl) (by decide) (fun _ => ?_) (fun q => absurd (of_decide_eq_true c_4) q)
    refine go_iconst (x := (0 : Int32)) (d_M_tick 38 rfl) (by decide) ?_
    refine go_istore_n (lv' := [(0, .ref (ad (100))), (1, .int x1), (2, .int ((0 : Int32)))]) (d_M_tick 39 rfl) rfl (by decide) rfl ?_
    refine go_iconst (x := (0 : Int32)) (d_M_tick 40 rfl) (by decide) ?_
    refine go_istore_n (lv' := [(0, .ref (ad (100))), (1, .int x1), (2, .int ((0 : Int32))), (3, .int ((0 : Int32)))]) (d_M_tick 41 rfl) rfl (by decide) rfl ?_
    exact b_M_tick_42 hl  FU (x1) ((0 : Int32)) ((0 : Int32)) (r_1.2.2.2) h
  · refine go_if_eq (tgt := 38) (d_M_tick 33 rfl) (by decide) (fun q => absurd q (of_decide_eq_false c_4)) (fun _ => ?_)
    refine go_iconst (x := (0 : Int32)) (d_M_tick 36 rfl) (by decide) ?_
    exact go_iret (d_M_tick 37 rfl) rfl rfl (Option.some.inj h) (by decide) (by decide)
def f_M_tick_23  (x1 : Int32) (v : go_V) : Option go_R := f_M_tick_28  (x1) ((1 : Int32)) (v)
set_option maxHeartbeats 4000000 in
set_option maxRecDepth 100000 in
theorem b_M_tick_23 {l : Launch} {G : go_G} {ad : Nat → Nat} (hl : l.stackTraces = false) {r : go_R}  (x1 : Int32) (v : go_V) (h : f_M_tick_23  x1 v = some r) : Go l G M_M_tick go_Ex0 (go_E G ad 1 r 0 0) ad v [(0, .ref (ad (100))), (1, .int x1)] 23 [.ref (ad (100))] 0 0 := by
  unfold f_M_tick_23 at h
  refine go_iconst (x := (1 : Int32)) (d_M_tick 23 rfl) (by decide) ?_
  refine go_goto (tgt := 28) (d_M_tick 24 rfl) (by decide) ?_
  exact b_M_tick_28 hl  (x1) ((1 : Int32)) (v) h
def f_M_tick (x1 : Int32) (v : go_V) : Option go_R := bd (f_M_in x1 (1 : Int32) (5000 : Int32) v) (fun r_1 => nt r_1 (br (decide (r_1.2.1 = 0)) (f_M_tick_23  (x1) (r_1.2.2.2)) (br (decide (((r_1.2.2.2 100 1) + x1) ≤ (999999 : Int32))) (f_M_tick_28  (x1) ((0 : Int32)) (r_1.2.2.2)) (f_M_tick_23  (x1) (r_1.2.2.2)))))
set_option maxHeartbeats 4000000 in
set_option maxRecDepth 100000 in
theorem Ca_M_tick {l : Launch} {G : go_G} {ad : Nat → Nat} (hl : l.stackTraces = false) {r : go_R} {x1 : Int32} {v : go_V} (h : f_M_tick x1 v = some r) : Ca l G y_M_tick (.code y_M_tick c_M_tick 5 (some .int) :: go_TT) (rmD 2 0) 1 ad [.ref (ad (100)), .int x1] v r := by
  unfold f_M_tick at h
  refine go_body (own := RM) (by decide) rfl (Nat.le_of_ble_eq_true rfl) ?_
  show Go l G M_M_tick go_Ex0 (go_E G ad 1 r 0 0) ad v [(0, .ref (ad (100))), (1, .int x1)] 0 [] 0 0
  refine go_aload_n (d_M_tick 0 rfl) rfl rfl ?_
  refine go_iload_n (d_M_tick 1 rfl) rfl rfl ?_
  refine go_iconst (x := (1 : Int32)) (d_M_tick 2 rfl) (by decide) ?_
  refine go_sipush (x := (5000 : Int32)) (d_M_tick 3 rfl) (by decide) ?_
  obtain ⟨r_1, o_2, h⟩ := bd_some h
  obtain ⟨z_3, h⟩ := nt_some h
  refine go_cS (As := [.int x1, .int ((1 : Int32)), .int ((5000 : Int32))]) (rest := [.ref (ad (100))]) (st2 := [.int (r_1.2.1), .ref (ad (100))]) (c2 := 0) (s2 := 0) rfl rfl rfl rfl (Ca_M_in hl o_2)  (d_M_tick 6 rfl) cw_M_73 w_639 ⟨by decide, by decide⟩ rfl (Nat.le_of_ble_eq_true rfl) ⟨by decide, by decide⟩ (fun _ => ?_) (fun q => absurd z_3 q)
  rcases br_some h with ⟨c_4, h⟩ | ⟨c_4, h⟩
  · refine go_if_eq (tgt := 23) (d_M_tick 9 rfl) (by decide) (fun _ => ?_) (fun q => absurd (of_decide_eq_true c_4) q)
    exact b_M_tick_23 hl  (x1) (r_1.2.2.2) h
  · refine go_if_eq (tgt := 23) (d_M_tick 9 rfl) (by decide) (fun q => absurd q (of_decide_eq_false c_4)) (fun _ => ?_)
    refine go_aload_n (d_M_tick 12 rfl) rfl rfl ?_
    refine go_getI (d_M_tick 13 rfl) fl_M_95 rfl rfl ?_
    refine go_iload_n (d_M_tick 16 rfl) rfl rfl ?_
    refine go_iadd (d_M_tick 17 rfl) ?_
    refine go_ldc (x := (999999 : Int32)) (d_M_tick 18 rfl) w_682 ?_
    rcases br_some h with ⟨c_5, h⟩ | ⟨c_5, h⟩
    · refine go_icmp_le (tgt := 27) (d_M_tick 20 rfl) (by decide) (fun _ => ?_) (fun q => absurd (of_decide_eq_true c_5) q)
      refine go_iconst (x := (0 : Int32)) (d_M_tick 27 rfl) (by decide) ?_
      exact b_M_tick_28 hl  (x1) ((0 : Int32)) (r_1.2.2.2) h
    · refine go_icmp_le (tgt := 27) (d_M_tick 20 rfl) (by decide) (fun q => absurd q (of_decide_eq_false c_5)) (fun _ => ?_)
      exact b_M_tick_23 hl  (x1) (r_1.2.2.2) h
abbrev M_M_word : go_M := (c_M_word, 5, (some .int), RM, [], rmD 3 0)
def f_M_word_107  (x1 : Int32) (x2 : Int32) (x3 : Int32) (x4 : Int32) (y1 : Int32) (y2 : Int32) (v : go_V) : Option go_R := ln (u2 v 100 24 (y1 + y2)) (fun v_1 => bd (f_M_all (0 : Int32) x2 x1 v_1) (fun r_2 => nt r_2 (some (0, r_2.2.1, 0, r_2.2.2.2))))
set_option maxHeartbeats 4000000 in
set_option maxRecDepth 100000 in
theorem b_M_word_107 {l : Launch} {G : go_G} {ad : Nat → Nat} (hl : l.stackTraces = false) {r : go_R}  (x1 : Int32) (x2 : Int32) (x3 : Int32) (x4 : Int32) (y1 : Int32) (y2 : Int32) (v : go_V) (h : f_M_word_107  x1 x2 x3 x4 y1 y2 v = some r) : Go l G M_M_word go_Ex0 (go_E G ad 1 r 0 0) ad v [(0, .ref (ad (100))), (1, .int x1), (2, .int x2), (3, .int x3), (4, .int x4)] 107 [.int y2, .int y1, .ref (ad (100))] 0 0 := by
  unfold f_M_word_107 at h
  refine go_iadd (d_M_word 107 rfl) ?_
  obtain ⟨v_1, ev_1, h⟩ := ln_some h
  refine go_putI (x := (y1 + y2)) (d_M_word 108 rfl) fp_M_121 rfl rfl rfl rfl ?_
  rw [← ev_1]
  refine go_aload_n (d_M_word 111 rfl) rfl rfl ?_
  refine go_iconst (x := (0 : Int32)) (d_M_word 112 rfl) (by decide) ?_
  refine go_iload_n (d_M_word 113 rfl) rfl rfl ?_
  refine go_iload_n (d_M_word 114 rfl) rfl rfl ?_
  obtain ⟨r_2, o_3, h⟩ := bd_some h
  obtain ⟨z_4, h⟩ := nt_some h
  refine go_cV (As := [.int ((0 : Int32)), .int x2, .int x1]) (rest := []) (st2 := [.int (r_2.2.1)]) (c2 := 0) (s2 := 0) rfl rfl rfl rfl (Ca_M_all hl o_3)  (d_M_word 115 rfl) cw_M_117 ⟨w_685, w_23⟩ rfl (by decide) rfl ⟨by decide, by decide⟩ rfl (Nat.le_of_ble_eq_true rfl) ⟨by decide, by decide⟩ (fun _ => ?_) (fun q => absurd z_4 q)
  exact go_iret (d_M_word 118 rfl) rfl rfl (Option.some.inj h) (by decide) (by decide)
def f_M_word_86 (rec47 : Int32 → Int32 → Int32 → Int32 → go_V → Option go_R) (x1 : Int32) (x2 : Int32) (x3 : Int32) (x4 : Int32) (y0 : Int32) (v : go_V) : Option go_R := rec47 (x1) (x2) (y0) ((x4 + 1)) (v)
set_option maxHeartbeats 4000000 in
set_option maxRecDepth 100000 in
theorem b_M_word_86 {l : Launch} {G : go_G} {ad : Nat → Nat} (hl : l.stackTraces = false) {r : go_R} (rec47 : Int32 → Int32 → Int32 → Int32 → go_V → Option go_R) (hrec47 : ∀ (x1 : Int32) (x2 : Int32) (x3 : Int32) (x4 : Int32) (v : go_V), rec47 x1 x2 x3 x4 v = some r → Go l G M_M_word go_Ex0 (go_E G ad 1 r 0 0) ad v [(0, .ref (ad (100))), (1, .int x1), (2, .int x2), (3, .int x3), (4, .int x4)] 47 [] 0 0) (x1 : Int32) (x2 : Int32) (x3 : Int32) (x4 : Int32) (y0 : Int32) (v : go_V) (h : f_M_word_86 rec47 x1 x2 x3 x4 y0 v = some r) : Go l G M_M_word go_Ex0 (go_E G ad 1 r 0 0) ad v [(0, .ref (ad (100))), (1, .int x1), (2, .int x2), (3, .int x3), (4, .int x4)] 86 [.int y0] 0 0 := by
  unfold f_M_word_86 at h
  refine go_istore_n (lv' := [(0, .ref (ad (100))), (1, .int x1), (2, .int x2), (3, .int y0), (4, .int x4)]) (d_M_word 86 rfl) rfl (by decide) rfl ?_
  refine go_iinc (y := (x4 + 1)) (lv' := [(0, .ref (ad (100))), (1, .int x1), (2, .int x2), (3, .int y0), (4, .int ((x4 + 1)))]) (d_M_word 87 rfl) rfl rfl (by decide) rfl ?_
  refine go_goto (tgt := 47) (d_M_word 90 rfl) (by decide) ?_
  exact hrec47 (x1) (x2) (y0) ((x4 + 1)) (v) h
def f_M_word_81 (rec47 : Int32 → Int32 → Int32 → Int32 → go_V → Option go_R) (x1 : Int32) (x2 : Int32) (x3 : Int32) (x4 : Int32) (v : go_V) : Option go_R := f_M_word_86 (rec47) (x1) (x2) (x3) (x4) ((1 : Int32)) (v)
set_option maxHeartbeats 4000000 in
set_option maxRecDepth 100000 in
theorem b_M_word_81 {l : Launch} {G : go_G} {ad : Nat → Nat} (hl : l.stackTraces = false) {r : go_R} (rec47 : Int32 → Int32 → Int32 → Int32 → go_V → Option go_R) (hrec47 : ∀ (x1 : Int32) (x2 : Int32) (x3 : Int32) (x4 : Int32) (v : go_V), rec47 x1 x2 x3 x4 v = some r → Go l G M_M_word go_Ex0 (go_E G ad 1 r 0 0) ad v [(0, .ref (ad (100))), (1, .int x1), (2, .int x2), (3, .int x3), (4, .int x4)] 47 [] 0 0) (x1 : Int32) (x2 : Int32) (x3 : Int32) (x4 : Int32) (v : go_V) (h : f_M_word_81 rec47 x1 x2 x3 x4 v = some r) : Go l G M_M_word go_Ex0 (go_E G ad 1 r 0 0) ad v [(0, .ref (ad (100))), (1, .int x1), (2, .int x2), (3, .int x3), (4, .int x4)] 81 [] 0 0 := by
  unfold f_M_word_81 at h
  refine go_iconst (x := (1 : Int32)) (d_M_word 81 rfl) (by decide) ?_
  refine go_goto (tgt := 86) (d_M_word 82 rfl) (by decide) ?_
  exact b_M_word_86 hl _ hrec47 (x1) (x2) (x3) (x4) ((1 : Int32)) (v) h
def f_M_word_85 (rec47 : Int32 → Int32 → Int32 → Int32 → go_V → Option go_R) (x1 : Int32) (x2 : Int32) (x3 : Int32) (x4 : Int32) (v : go_V) : Option go_R := f_M_word_86 (rec47) (x1) (x2) (x3) (x4) ((0 : Int32)) (v)
set_option maxHeartbeats 4000000 in
set_option maxRecDepth 100000 in
theorem b_M_word_85 {l : Launch} {G : go_G} {ad : Nat → Nat} (hl : l.stackTraces = false) {r : go_R} (rec47 : Int32 → Int32 → Int32 → Int32 → go_V → Option go_R) (hrec47 : ∀ (x1 : Int32) (x2 : Int32) (x3 : Int32) (x4 : Int32) (v : go_V), rec47 x1 x2 x3 x4 v = some r → Go l G M_M_word go_Ex0 (go_E G ad 1 r 0 0) ad v [(0, .ref (ad (100))), (1, .int x1), (2, .int x2), (3, .int x3), (4, .int x4)] 47 [] 0 0) (x1 : Int32) (x2 : Int32) (x3 : Int32) (x4 : Int32) (v : go_V) (h : f_M_word_85 rec47 x1 x2 x3 x4 v = some r) : Go l G M_M_word go_Ex0 (go_E G ad 1 r 0 0) ad v [(0, .ref (ad (100))), (1, .int x1), (2, .int x2), (3, .int x3), (4, .int x4)] 85 [] 0 0 := by
  unfold f_M_word_85 at h
  refine go_iconst (x := (0 : Int32)) (d_M_word 85 rfl) (by decide) ?_
  exact b_M_word_86 hl _ hrec47 (x1) (x2) (x3) (x4) ((0 : Int32)) (v) h
def f_M_word_47  : Nat → Int32 → Int32 → Int32 → Int32 → go_V → Option go_R
  | 0, _, _, _, _, _ => none
  | n + 1, x1, x2, x3, x4, v => br (decide ((v 100 4) ≤ x4)) (br (decide (x3 = 0)) (f_M_word_107  (x1) (x2) (x3) (x4) ((v 100 24)) ((1 : Int32)) (v)) (f_M_word_107  (x1) (x2) (x3) (x4) ((v 100 24)) ((0 : Int32)) (v))) (br (decide (x3 = 0)) (gd (go_in x4 20) (br (decide ((v 102 x4.toNatClampNeg) = 0)) (gd (go_in x4 20) (br (decide ((v 103 x4.toNatClampNeg) = x2)) (f_M_word_81 (f_M_word_47 n) (x1) (x2) (x3) (x4) (v)) (f_M_word_85 (f_M_word_47 n) (x1) (x2) (x3) (x4) (v)))) (f_M_word_85 (f_M_word_47 n) (x1) (x2) (x3) (x4) (v)))) (f_M_word_81 (f_M_word_47 n) (x1) (x2) (x3) (x4) (v)))
set_option maxHeartbeats 4000000 in
set_option maxRecDepth 100000 in
theorem b_M_word_47 {l : Launch} {G : go_G} {ad : Nat → Nat} (hl : l.stackTraces = false) {r : go_R}  : ∀ (n : Nat) (x1 : Int32) (x2 : Int32) (x3 : Int32) (x4 : Int32) (v : go_V), f_M_word_47  n x1 x2 x3 x4 v = some r → Go l G M_M_word go_Ex0 (go_E G ad 1 r 0 0) ad v [(0, .ref (ad (100))), (1, .int x1), (2, .int x2), (3, .int x3), (4, .int x4)] 47 [] 0 0 := by
  intro n
  induction n with
  | zero =>
    intro x1 x2 x3 x4 v h
    cases h
  | succ n ih =>
    intro x1 x2 x3 x4 v h
    rw [f_M_word_47] at h
    refine go_iload (d_M_word 47 rfl) rfl ?_
    refine go_aload_n (d_M_word 49 rfl) rfl rfl ?_
    refine go_getI (d_M_word 50 rfl) fl_M_92 rfl rfl ?_
    rcases br_some h with ⟨c_1, h⟩ | ⟨c_1, h⟩
    · refine go_icmp_ge (tgt := 93) (d_M_word 53 rfl) (by decide) (fun _ => ?_) (fun q => absurd (of_decide_eq_true c_1) q)
      refine go_aload_n (d_M_word 93 rfl) rfl rfl ?_
      refine go_dup (d_M_word 94 rfl) rfl ?_
      refine go_getI (d_M_word 95 rfl) fl_M_121 rfl rfl ?_
      refine go_iload_n (d_M_word 98 rfl) rfl rfl ?_
      rcases br_some h with ⟨c_2, h⟩ | ⟨c_2, h⟩
      · refine go_if_eq (tgt := 106) (d_M_word 99 rfl) (by decide) (fun _ => ?_) (fun q => absurd (of_decide_eq_true c_2) q)
        refine go_iconst (x := (1 : Int32)) (d_M_word 106 rfl) (by decide) ?_
        exact b_M_word_107 hl  (x1) (x2) (x3) (x4) ((v 100 24)) ((1 : Int32)) (v) h
      · refine go_if_eq (tgt := 106) (d_M_word 99 rfl) (by decide) (fun q => absurd q (of_decide_eq_false c_2)) (fun _ => ?_)
        refine go_iconst (x := (0 : Int32)) (d_M_word 102 rfl) (by decide) ?_
        refine go_goto (tgt := 107) (d_M_word 103 rfl) (by decide) ?_
        exact b_M_word_107 hl  (x1) (x2) (x3) (x4) ((v 100 24)) ((0 : Int32)) (v) h
    · refine go_icmp_ge (tgt := 93) (d_M_word 53 rfl) (by decide) (fun q => absurd q (of_decide_eq_false c_1)) (fun _ => ?_)
      refine go_iload_n (d_M_word 56 rfl) rfl rfl ?_
      rcases br_some h with ⟨c_3, h⟩ | ⟨c_3, h⟩
      · refine go_if_ne (tgt := 81) (d_M_word 57 rfl) (by decide) (fun q => absurd (of_decide_eq_true c_3) q) (fun _ => ?_)
        refine go_aload_n (d_M_word 60 rfl) rfl rfl ?_
        refine go_getR (d_M_word 61 rfl) fl_M_13 rfl rfl ?_
        show Go _ _ _ _ _ _ _ _ _ (.ref (ad (102)) :: []) _ _
        refine go_iload (d_M_word 64 rfl) rfl ?_
        obtain ⟨g_4, h⟩ := gd_some h
        refine go_iald (d_M_word 66 rfl) rfl g_4 ?_
        rcases br_some h with ⟨c_5, h⟩ | ⟨c_5, h⟩
        · refine go_if_ne (tgt := 85) (d_M_word 67 rfl) (by decide) (fun q => absurd (of_decide_eq_true c_5) q) (fun _ => ?_)
          refine go_aload_n (d_M_word 70 rfl) rfl rfl ?_
          refine go_getR (d_M_word 71 rfl) fl_M_16 rfl rfl ?_
          show Go _ _ _ _ _ _ _ _ _ (.ref (ad (103)) :: []) _ _
          refine go_iload (d_M_word 74 rfl) rfl ?_
          obtain ⟨g_6, h⟩ := gd_some h
          refine go_iald (d_M_word 76 rfl) rfl g_6 ?_
          refine go_iload_n (d_M_word 77 rfl) rfl rfl ?_
          rcases br_some h with ⟨c_7, h⟩ | ⟨c_7, h⟩
          · refine go_icmp_ne (tgt := 85) (d_M_word 78 rfl) (by decide) (fun q => absurd (of_decide_eq_true c_7) q) (fun _ => ?_)
            exact b_M_word_81 hl _ ih (x1) (x2) (x3) (x4) (v) h
          · refine go_icmp_ne (tgt := 85) (d_M_word 78 rfl) (by decide) (fun _ => ?_) (fun q => absurd q (of_decide_eq_false c_7))
            exact b_M_word_85 hl _ ih (x1) (x2) (x3) (x4) (v) h
        · refine go_if_ne (tgt := 85) (d_M_word 67 rfl) (by decide) (fun _ => ?_) (fun q => absurd q (of_decide_eq_false c_5))
          exact b_M_word_85 hl _ ih (x1) (x2) (x3) (x4) (v) h
      · refine go_if_ne (tgt := 81) (d_M_word 57 rfl) (by decide) (fun _ => ?_) (fun q => absurd q (of_decide_eq_false c_3))
        exact b_M_word_81 hl _ ih (x1) (x2) (x3) (x4) (v) h
def f_M_word_29  (x1 : Int32) (x2 : Int32) (y1 : Int32) (y2 : Int32) (v : go_V) : Option go_R := bd (f_M_isClosed x1 v) (fun r_1 => nt r_1 (bd (f_M_throwing y1 y2 r_1.2.1 r_1.2.2.2) (fun r_4 => nt r_4 (br (decide (r_4.2.1 = 0)) (f_M_word_47  FU (x1) (x2) ((0 : Int32)) ((0 : Int32)) (r_4.2.2.2)) (some (0, (0 : Int32), 0, r_4.2.2.2))))))
set_option maxHeartbeats 4000000 in
set_option maxRecDepth 100000 in
theorem b_M_word_29 {l : Launch} {G : go_G} {ad : Nat → Nat} (hl : l.stackTraces = false) {r : go_R}  (x1 : Int32) (x2 : Int32) (y1 : Int32) (y2 : Int32) (v : go_V) (h : f_M_word_29  x1 x2 y1 y2 v = some r) : Go l G M_M_word go_Ex0 (go_E G ad 1 r 0 0) ad v [(0, .ref (ad (100))), (1, .int x1), (2, .int x2)] 29 [.int y2, .int y1, .ref (ad (100))] 0 0 := by
  unfold f_M_word_29 at h
  refine go_aload_n (d_M_word 29 rfl) rfl rfl ?_
  refine go_iload_n (d_M_word 30 rfl) rfl rfl ?_
  obtain ⟨r_1, o_2, h⟩ := bd_some h
  obtain ⟨z_3, h⟩ := nt_some h
  refine go_cV (As := [.int x1]) (rest := [.int y2, .int y1, .ref (ad (100))]) (st2 := [.int (r_1.2.1), .int y2, .int y1, .ref (ad (100))]) (c2 := 0) (s2 := 0) rfl rfl rfl rfl (Ca_M_isClosed hl o_2)  (d_M_word 31 rfl) cw_M_98 ⟨w_668, w_20⟩ rfl (by decide) rfl ⟨by decide, by decide⟩ rfl (Nat.le_of_ble_eq_true rfl) ⟨by decide, by decide⟩ (fun _ => ?_) (fun q => absurd z_3 q)
  obtain ⟨r_4, o_5, h⟩ := bd_some h
  obtain ⟨z_6, h⟩ := nt_some h
  refine go_cV (As := [.int y1, .int y2, .int (r_1.2.1)]) (rest := []) (st2 := [.int (r_4.2.1)]) (c2 := 0) (s2 := 0) rfl rfl rfl rfl (Ca_M_throwing hl o_5)  (d_M_word 34 rfl) cw_M_84 ⟨w_643, w_18⟩ rfl (by decide) rfl ⟨by decide, by decide⟩ rfl (Nat.le_of_ble_eq_true rfl) ⟨by decide, by decide⟩ (fun _ => ?_) (fun q => absurd z_6 q)
  rcases br_some h with ⟨c_7, h⟩ | ⟨c_7, h⟩
  · refine go_if_eq (tgt := 42) (d_M_word 37 rfl) (by decide) (fun _ => ?_) (fun q => absurd (of_decide_eq_true c_7) q)
    refine go_iconst (x := (0 : Int32)) (d_M_word 42 rfl) (by decide) ?_
    refine go_istore_n (lv' := [(0, .ref (ad (100))), (1, .int x1), (2, .int x2), (3, .int ((0 : Int32)))]) (d_M_word 43 rfl) rfl (by decide) rfl ?_
    refine go_iconst (x := (0 : Int32)) (d_M_word 44 rfl) (by decide) ?_
    refine go_istore (lv' := [(0, .ref (ad (100))), (1, .int x1), (2, .int x2), (3, .int ((0 : Int32))), (4, .int ((0 : Int32)))]) (d_M_word 45 rfl) (by decide) rfl ?_
    exact b_M_word_47 hl  FU (x1) (x2) ((0 : Int32)) ((0 : Int32)) (r_4.2.2.2) h
  · refine go_if_eq (tgt := 42) (d_M_word 37 rfl) (by decide) (fun q => absurd q (of_decide_eq_false c_7)) (fun _ => ?_)
    refine go_iconst (x := (0 : Int32)) (d_M_word 40 rfl) (by decide) ?_
    exact go_iret (d_M_word 41 rfl) rfl rfl (Option.some.inj h) (by decide) (by decide)
def f_M_word_14  (x1 : Int32) (x2 : Int32) (y1 : Int32) (v : go_V) : Option go_R := bd (f_M_in x2 (0 : Int32) (99 : Int32) v) (fun r_1 => nt r_1 (br (decide (r_1.2.1 = 0)) (f_M_word_29  (x1) (x2) (y1) ((1 : Int32)) (r_1.2.2.2)) (f_M_word_29  (x1) (x2) (y1) ((0 : Int32)) (r_1.2.2.2))))
set_option maxHeartbeats 4000000 in
set_option maxRecDepth 100000 in
theorem b_M_word_14 {l : Launch} {G : go_G} {ad : Nat → Nat} (hl : l.stackTraces = false) {r : go_R}  (x1 : Int32) (x2 : Int32) (y1 : Int32) (v : go_V) (h : f_M_word_14  x1 x2 y1 v = some r) : Go l G M_M_word go_Ex0 (go_E G ad 1 r 0 0) ad v [(0, .ref (ad (100))), (1, .int x1), (2, .int x2)] 14 [.int y1, .ref (ad (100))] 0 0 := by
  unfold f_M_word_14 at h
  refine go_iload_n (d_M_word 14 rfl) rfl rfl ?_
  refine go_iconst (x := (0 : Int32)) (d_M_word 15 rfl) (by decide) ?_
  refine go_bipush (x := (99 : Int32)) (d_M_word 16 rfl) (by decide) ?_
  obtain ⟨r_1, o_2, h⟩ := bd_some h
  obtain ⟨z_3, h⟩ := nt_some h
  refine go_cS (As := [.int x2, .int ((0 : Int32)), .int ((99 : Int32))]) (rest := [.int y1, .ref (ad (100))]) (st2 := [.int (r_1.2.1), .int y1, .ref (ad (100))]) (c2 := 0) (s2 := 0) rfl rfl rfl rfl (Ca_M_in hl o_2)  (d_M_word 18 rfl) cw_M_73 w_639 ⟨by decide, by decide⟩ rfl (Nat.le_of_ble_eq_true rfl) ⟨by decide, by decide⟩ (fun _ => ?_) (fun q => absurd z_3 q)
  rcases br_some h with ⟨c_4, h⟩ | ⟨c_4, h⟩
  · refine go_if_ne (tgt := 28) (d_M_word 21 rfl) (by decide) (fun q => absurd (of_decide_eq_true c_4) q) (fun _ => ?_)
    refine go_iconst (x := (1 : Int32)) (d_M_word 24 rfl) (by decide) ?_
    refine go_goto (tgt := 29) (d_M_word 25 rfl) (by decide) ?_
    exact b_M_word_29 hl  (x1) (x2) (y1) ((1 : Int32)) (r_1.2.2.2) h
  · refine go_if_ne (tgt := 28) (d_M_word 21 rfl) (by decide) (fun _ => ?_) (fun q => absurd q (of_decide_eq_false c_4))
    refine go_iconst (x := (0 : Int32)) (d_M_word 28 rfl) (by decide) ?_
    exact b_M_word_29 hl  (x1) (x2) (y1) ((0 : Int32)) (r_1.2.2.2) h
def f_M_word (x1 : Int32) (x2 : Int32) (v : go_V) : Option go_R := bd (f_M_isIncident x1 v) (fun r_1 => nt r_1 (br (decide (r_1.2.1 = 0)) (f_M_word_14  (x1) (x2) ((1 : Int32)) (r_1.2.2.2)) (f_M_word_14  (x1) (x2) ((0 : Int32)) (r_1.2.2.2))))
set_option maxHeartbeats 4000000 in
set_option maxRecDepth 100000 in
theorem Ca_M_word {l : Launch} {G : go_G} {ad : Nat → Nat} (hl : l.stackTraces = false) {r : go_R} {x1 : Int32} {x2 : Int32} {v : go_V} (h : f_M_word x1 x2 v = some r) : Ca l G y_M_word (.code y_M_word c_M_word 5 (some .int) :: go_TT) (rmD 3 0) 1 ad [.ref (ad (100)), .int x1, .int x2] v r := by
  unfold f_M_word at h
  refine go_body (own := RM) (by decide) rfl (Nat.le_of_ble_eq_true rfl) ?_
  show Go l G M_M_word go_Ex0 (go_E G ad 1 r 0 0) ad v [(0, .ref (ad (100))), (1, .int x1), (2, .int x2)] 0 [] 0 0
  refine go_aload_n (d_M_word 0 rfl) rfl rfl ?_
  refine go_aload_n (d_M_word 1 rfl) rfl rfl ?_
  refine go_iload_n (d_M_word 2 rfl) rfl rfl ?_
  obtain ⟨r_1, o_2, h⟩ := bd_some h
  obtain ⟨z_3, h⟩ := nt_some h
  refine go_cV (As := [.int x1]) (rest := [.ref (ad (100))]) (st2 := [.int (r_1.2.1), .ref (ad (100))]) (c2 := 0) (s2 := 0) rfl rfl rfl rfl (Ca_M_isIncident hl o_2)  (d_M_word 3 rfl) cw_M_77 ⟨w_664, w_19⟩ rfl (by decide) rfl ⟨by decide, by decide⟩ rfl (Nat.le_of_ble_eq_true rfl) ⟨by decide, by decide⟩ (fun _ => ?_) (fun q => absurd z_3 q)
  rcases br_some h with ⟨c_4, h⟩ | ⟨c_4, h⟩
  · refine go_if_ne (tgt := 13) (d_M_word 6 rfl) (by decide) (fun q => absurd (of_decide_eq_true c_4) q) (fun _ => ?_)
    refine go_iconst (x := (1 : Int32)) (d_M_word 9 rfl) (by decide) ?_
    refine go_goto (tgt := 14) (d_M_word 10 rfl) (by decide) ?_
    exact b_M_word_14 hl  (x1) (x2) ((1 : Int32)) (r_1.2.2.2) h
  · refine go_if_ne (tgt := 13) (d_M_word 6 rfl) (by decide) (fun _ => ?_) (fun q => absurd q (of_decide_eq_false c_4))
    refine go_iconst (x := (0 : Int32)) (d_M_word 13 rfl) (by decide) ?_
    exact b_M_word_14 hl  (x1) (x2) ((0 : Int32)) (r_1.2.2.2) h
abbrev M_M_hurt : go_M := (c_M_hurt, 6, (some .int), RM, [], rmD 3 0)
def f_M_hurt_118 (rec63 : Int32 → Int32 → Int32 → Int32 → Int32 → go_V → Option go_R) (x1 : Int32) (x2 : Int32) (x3 : Int32) (x4 : Int32) (x5 : Int32) (y0 : Int32) (y1 : Int32) (v : go_V) : Option go_R := rec63 (x1) (x2) (x3) ((y0 + y1)) ((x5 + 1)) (v)
set_option maxHeartbeats 4000000 in
set_option maxRecDepth 100000 in
theorem b_M_hurt_118 {l : Launch} {G : go_G} {ad : Nat → Nat} (hl : l.stackTraces = false) {r : go_R} (rec63 : Int32 → Int32 → Int32 → Int32 → Int32 → go_V → Option go_R) (hrec63 : ∀ (x1 : Int32) (x2 : Int32) (x3 : Int32) (x4 : Int32) (x5 : Int32) (v : go_V), rec63 x1 x2 x3 x4 x5 v = some r → Go l G M_M_hurt go_Ex0 (go_E G ad 1 r 0 0) ad v [(0, .ref (ad (100))), (1, .int x1), (2, .int x2), (3, .int x3), (4, .int x4), (5, .int x5)] 63 [] 0 0) (x1 : Int32) (x2 : Int32) (x3 : Int32) (x4 : Int32) (x5 : Int32) (y0 : Int32) (y1 : Int32) (v : go_V) (h : f_M_hurt_118 rec63 x1 x2 x3 x4 x5 y0 y1 v = some r) : Go l G M_M_hurt go_Ex0 (go_E G ad 1 r 0 0) ad v [(0, .ref (ad (100))), (1, .int x1), (2, .int x2), (3, .int x3), (4, .int x4), (5, .int x5)] 118 [.int y1, .int y0] 0 0 := by
  unfold f_M_hurt_118 at h
  refine go_iadd (d_M_hurt 118 rfl) ?_
  refine go_istore (lv' := [(0, .ref (ad (100))), (1, .int x1), (2, .int x2), (3, .int x3), (4, .int ((y0 + y1))), (5, .int x5)]) (d_M_hurt 119 rfl) (by decide) rfl ?_
  refine go_iinc (y := (x5 + 1)) (lv' := [(0, .ref (ad (100))), (1, .int x1), (2, .int x2), (3, .int x3), (4, .int ((y0 + y1))), (5, .int ((x5 + 1)))]) (d_M_hurt 121 rfl) rfl rfl (by decide) rfl ?_
  refine go_goto (tgt := 63) (d_M_hurt 124 rfl) (by decide) ?_
  exact hrec63 (x1) (x2) (x3) ((y0 + y1)) ((x5 + 1)) (v) h
def f_M_hurt_117 (rec63 : Int32 → Int32 → Int32 → Int32 → Int32 → go_V → Option go_R) (x1 : Int32) (x2 : Int32) (x3 : Int32) (x4 : Int32) (x5 : Int32) (y0 : Int32) (v : go_V) : Option go_R := f_M_hurt_118 (rec63) (x1) (x2) (x3) (x4) (x5) (y0) ((0 : Int32)) (v)
set_option maxHeartbeats 4000000 in
set_option maxRecDepth 100000 in
theorem b_M_hurt_117 {l : Launch} {G : go_G} {ad : Nat → Nat} (hl : l.stackTraces = false) {r : go_R} (rec63 : Int32 → Int32 → Int32 → Int32 → Int32 → go_V → Option go_R) (hrec63 : ∀ (x1 : Int32) (x2 : Int32) (x3 : Int32) (x4 : Int32) (x5 : Int32) (v : go_V), rec63 x1 x2 x3 x4 x5 v = some r → Go l G M_M_hurt go_Ex0 (go_E G ad 1 r 0 0) ad v [(0, .ref (ad (100))), (1, .int x1), (2, .int x2), (3, .int x3), (4, .int x4), (5, .int x5)] 63 [] 0 0) (x1 : Int32) (x2 : Int32) (x3 : Int32) (x4 : Int32) (x5 : Int32) (y0 : Int32) (v : go_V) (h : f_M_hurt_117 rec63 x1 x2 x3 x4 x5 y0 v = some r) : Go l G M_M_hurt go_Ex0 (go_E G ad 1 r 0 0) ad v [(0, .ref (ad (100))), (1, .int x1), (2, .int x2), (3, .int x3), (4, .int x4), (5, .int x5)] 117 [.int y0] 0 0 := by
  unfold f_M_hurt_117 at h
  refine go_iconst (x := (0 : Int32)) (d_M_hurt 117 rfl) (by decide) ?_
  exact b_M_hurt_118 hl _ hrec63 (x1) (x2) (x3) (x4) (x5) (y0) ((0 : Int32)) (v) h
def f_M_hurt_63  : Nat → Int32 → Int32 → Int32 → Int32 → Int32 → go_V → Option go_R
  | 0, _, _, _, _, _, _ => none
  | n + 1, x1, x2, x3, x4, x5, v => br (decide ((v 100 4) ≤ x5)) (some (0, x4, 0, v)) (gd (go_in x5 20) (br (decide ((v 102 x5.toNatClampNeg) = (1 : Int32))) (gd (go_in x5 20) (br (decide ((v 103 x5.toNatClampNeg) ≤ x3)) (f_M_hurt_117 (f_M_hurt_63 n) (x1) (x2) (x3) (x4) (x5) (x4) (v)) (gd (go_in x5 20) (br (decide (x2 < (v 103 x5.toNatClampNeg))) (f_M_hurt_117 (f_M_hurt_63 n) (x1) (x2) (x3) (x4) (x5) (x4) (v)) (bd (f_M_act x5 x1 v) (fun r_8 => nt r_8 (f_M_hurt_118 (f_M_hurt_63 n) (x1) (x2) (x3) (x4) (x5) (x4) (r_8.2.1) (r_8.2.2.2)))))))) (f_M_hurt_117 (f_M_hurt_63 n) (x1) (x2) (x3) (x4) (x5) (x4) (v))))
set_option maxHeartbeats 4000000 in
set_option maxRecDepth 100000 in
theorem b_M_hurt_63 {l : Launch} {G : go_G} {ad : Nat → Nat} (hl : l.stackTraces = false) {r : go_R}  : ∀ (n : Nat) (x1 : Int32) (x2 : Int32) (x3 : Int32) (x4 : Int32) (x5 : Int32) (v : go_V), f_M_hurt_63  n x1 x2 x3 x4 x5 v = some r → Go l G M_M_hurt go_Ex0 (go_E G ad 1 r 0 0) ad v [(0, .ref (ad (100))), (1, .int x1), (2, .int x2), (3, .int x3), (4, .int x4), (5, .int x5)] 63 [] 0 0 := by
  intro n
  induction n with
  | zero =>
    intro x1 x2 x3 x4 x5 v h
    cases h
  | succ n ih =>
    intro x1 x2 x3 x4 x5 v h
    rw [f_M_hurt_63] at h
    refine go_iload (d_M_hurt 63 rfl) rfl ?_
    refine go_aload_n (d_M_hurt 65 rfl) rfl rfl ?_
    refine go_getI (d_M_hurt 66 rfl) fl_M_92 rfl rfl ?_
    rcases br_some h with ⟨c_1, h⟩ | ⟨c_1, h⟩
    · refine go_icmp_ge (tgt := 127) (d_M_hurt 69 rfl) (by decide) (fun _ => ?_) (fun q => absurd (of_decide_eq_true c_1) q)
      refine go_iload (d_M_hurt 127 rfl) rfl ?_
      exact go_iret (d_M_hurt 129 rfl) rfl rfl (Option.some.inj h) (by decide) (by decide)
    · refine go_icmp_ge (tgt := 127) (d_M_hurt 69 rfl) (by decide) (fun q => absurd q (of_decide_eq_false c_1)) (fun _ => ?_)
      refine go_iload (d_M_hurt 72 rfl) rfl ?_
      refine go_aload_n (d_M_hurt 74 rfl) rfl rfl ?_
      refine go_getR (d_M_hurt 75 rfl) fl_M_13 rfl rfl ?_
      show Go _ _ _ _ _ _ _ _ _ (.ref (ad (102)) :: .int x4 :: []) _ _
      refine go_iload (d_M_hurt 78 rfl) rfl ?_
      obtain ⟨g_2, h⟩ := gd_some h
      refine go_iald (d_M_hurt 80 rfl) rfl g_2 ?_
      refine go_iconst (x := (1 : Int32)) (d_M_hurt 81 rfl) (by decide) ?_
      rcases br_some h with ⟨c_3, h⟩ | ⟨c_3, h⟩
      · refine go_icmp_ne (tgt := 117) (d_M_hurt 82 rfl) (by decide) (fun q => absurd (of_decide_eq_true c_3) q) (fun _ => ?_)
        refine go_iload_n (d_M_hurt 85 rfl) rfl rfl ?_
        refine go_aload_n (d_M_hurt 86 rfl) rfl rfl ?_
        refine go_getR (d_M_hurt 87 rfl) fl_M_16 rfl rfl ?_
        show Go _ _ _ _ _ _ _ _ _ (.ref (ad (103)) :: .int x3 :: .int x4 :: []) _ _
        refine go_iload (d_M_hurt 90 rfl) rfl ?_
        obtain ⟨g_4, h⟩ := gd_some h
        refine go_iald (d_M_hurt 92 rfl) rfl g_4 ?_
        rcases br_some h with ⟨c_5, h⟩ | ⟨c_5, h⟩
        · refine go_icmp_ge (tgt := 117) (d_M_hurt 93 rfl) (by decide) (fun _ => ?_) (fun q => absurd (of_decide_eq_true c_5) q)
          exact b_M_hurt_117 hl _ ih (x1) (x2) (x3) (x4) (x5) (x4) (v) h
        · refine go_icmp_ge (tgt := 117) (d_M_hurt 93 rfl) (by decide) (fun q => absurd q (of_decide_eq_false c_5)) (fun _ => ?_)
          refine go_iload_n (d_M_hurt 96 rfl) rfl rfl ?_
          refine go_aload_n (d_M_hurt 97 rfl) rfl rfl ?_
          refine go_getR (d_M_hurt 98 rfl) fl_M_16 rfl rfl ?_
          show Go _ _ _ _ _ _ _ _ _ (.ref (ad (103)) :: .int x2 :: .int x4 :: []) _ _
          refine go_iload (d_M_hurt 101 rfl) rfl ?_
          obtain ⟨g_6, h⟩ := gd_some h
          refine go_iald (d_M_hurt 103 rfl) rfl g_6 ?_
          rcases br_some h with ⟨c_7, h⟩ | ⟨c_7, h⟩
          · refine go_icmp_lt (tgt := 117) (d_M_hurt 104 rfl) (by decide) (fun _ => ?_) (fun q => absurd (of_decide_eq_true c_7) q)
            exact b_M_hurt_117 hl _ ih (x1) (x2) (x3) (x4) (x5) (x4) (v) h
          · refine go_icmp_lt (tgt := 117) (d_M_hurt 104 rfl) (by decide) (fun q => absurd q (of_decide_eq_false c_7)) (fun _ => ?_)
            refine go_aload_n (d_M_hurt 107 rfl) rfl rfl ?_
            refine go_iload (d_M_hurt 108 rfl) rfl ?_
            refine go_iload_n (d_M_hurt 110 rfl) rfl rfl ?_
            obtain ⟨r_8, o_9, h⟩ := bd_some h
            obtain ⟨z_10, h⟩ := nt_some h
            refine go_cV (As := [.int x5, .int x1]) (rest := [.int x4]) (st2 := [.int (r_8.2.1), .int x4]) (c2 := 0) (s2 := 0) rfl rfl rfl rfl (Ca_M_act hl o_9)  (d_M_hurt 111 rfl) cw_M_112 ⟨w_689, w_24⟩ rfl (by decide) rfl ⟨by decide, by decide⟩ rfl (Nat.le_of_ble_eq_true rfl) ⟨by decide, by decide⟩ (fun _ => ?_) (fun q => absurd z_10 q)
            refine go_goto (tgt := 118) (d_M_hurt 114 rfl) (by decide) ?_
            exact b_M_hurt_118 hl _ ih (x1) (x2) (x3) (x4) (x5) (x4) (r_8.2.1) (r_8.2.2.2) h
      · refine go_icmp_ne (tgt := 117) (d_M_hurt 82 rfl) (by decide) (fun _ => ?_) (fun q => absurd q (of_decide_eq_false c_3))
        exact b_M_hurt_117 hl _ ih (x1) (x2) (x3) (x4) (x5) (x4) (v) h
def f_M_hurt_30  (x1 : Int32) (x2 : Int32) (y1 : Int32) (y2 : Int32) (v : go_V) : Option go_R := bd (f_M_isClosed x1 v) (fun r_1 => nt r_1 (bd (f_M_throwing y1 y2 r_1.2.1 r_1.2.2.2) (fun r_4 => nt r_4 (br (decide (r_4.2.1 = 0)) (gd (go_in x1 12) (gd (go_in x1 12) (ln (u2 r_4.2.2.2 109 x1.toNatClampNeg x2) (fun v_10 => f_M_hurt_63  FU (x1) (x2) ((r_4.2.2.2 109 x1.toNatClampNeg)) ((0 : Int32)) ((0 : Int32)) (v_10))))) (some (0, (0 : Int32), 0, r_4.2.2.2))))))
set_option maxHeartbeats 4000000 in
set_option maxRecDepth 100000 in
theorem b_M_hurt_30 {l : Launch} {G : go_G} {ad : Nat → Nat} (hl : l.stackTraces = false) {r : go_R}  (x1 : Int32) (x2 : Int32) (y1 : Int32) (y2 : Int32) (v : go_V) (h : f_M_hurt_30  x1 x2 y1 y2 v = some r) : Go l G M_M_hurt go_Ex0 (go_E G ad 1 r 0 0) ad v [(0, .ref (ad (100))), (1, .int x1), (2, .int x2)] 30 [.int y2, .int y1, .ref (ad (100))] 0 0 := by
  unfold f_M_hurt_30 at h
  refine go_aload_n (d_M_hurt 30 rfl) rfl rfl ?_
  refine go_iload_n (d_M_hurt 31 rfl) rfl rfl ?_
  obtain ⟨r_1, o_2, h⟩ := bd_some h
  obtain ⟨z_3, h⟩ := nt_some h
  refine go_cV (As := [.int x1]) (rest := [.int y2, .int y1, .ref (ad (100))]) (st2 := [.int (r_1.2.1), .int y2, .int y1, .ref (ad (100))]) (c2 := 0) (s2 := 0) rfl rfl rfl rfl (Ca_M_isClosed hl o_2)  (d_M_hurt 32 rfl) cw_M_98 ⟨w_668, w_20⟩ rfl (by decide) rfl ⟨by decide, by decide⟩ rfl (Nat.le_of_ble_eq_true rfl) ⟨by decide, by decide⟩ (fun _ => ?_) (fun q => absurd z_3 q)
  obtain ⟨r_4, o_5, h⟩ := bd_some h
  obtain ⟨z_6, h⟩ := nt_some h
  refine go_cV (As := [.int y1, .int y2, .int (r_1.2.1)]) (rest := []) (st2 := [.int (r_4.2.1)]) (c2 := 0) (s2 := 0) rfl rfl rfl rfl (Ca_M_throwing hl o_5)  (d_M_hurt 35 rfl) cw_M_84 ⟨w_643, w_18⟩ rfl (by decide) rfl ⟨by decide, by decide⟩ rfl (Nat.le_of_ble_eq_true rfl) ⟨by decide, by decide⟩ (fun _ => ?_) (fun q => absurd z_6 q)
  rcases br_some h with ⟨c_7, h⟩ | ⟨c_7, h⟩
  · refine go_if_eq (tgt := 43) (d_M_hurt 38 rfl) (by decide) (fun _ => ?_) (fun q => absurd (of_decide_eq_true c_7) q)
    refine go_aload_n (d_M_hurt 43 rfl) rfl rfl ?_
    refine go_getR (d_M_hurt 44 rfl) fl_M_35 rfl rfl ?_
    show Go _ _ _ _ _ _ _ _ _ (.ref (ad (109)) :: []) _ _
    refine go_iload_n (d_M_hurt 47 rfl) rfl rfl ?_
    obtain ⟨g_8, h⟩ := gd_some h
    refine go_iald (d_M_hurt 48 rfl) rfl g_8 ?_
    refine go_istore_n (lv' := [(0, .ref (ad (100))), (1, .int x1), (2, .int x2), (3, .int ((r_4.2.2.2 109 x1.toNatClampNeg)))]) (d_M_hurt 49 rfl) rfl (by decide) rfl ?_
    refine go_aload_n (d_M_hurt 50 rfl) rfl rfl ?_
    refine go_getR (d_M_hurt 51 rfl) fl_M_35 rfl rfl ?_
    show Go _ _ _ _ _ _ _ _ _ (.ref (ad (109)) :: []) _ _
    refine go_iload_n (d_M_hurt 54 rfl) rfl rfl ?_
    refine go_iload_n (d_M_hurt 55 rfl) rfl rfl ?_
    obtain ⟨g_9, h⟩ := gd_some h
    obtain ⟨v_10, ev_10, h⟩ := ln_some h
    refine go_iast (y := x2) (d_M_hurt 56 rfl) rfl g_9 ?_
    rw [← ev_10]
    refine go_iconst (x := (0 : Int32)) (d_M_hurt 57 rfl) (by decide) ?_
    refine go_istore (lv' := [(0, .ref (ad (100))), (1, .int x1), (2, .int x2), (3, .int ((r_4.2.2.2 109 x1.toNatClampNeg))), (4, .int ((0 : Int32)))]) (d_M_hurt 58 rfl) (by decide) rfl ?_
    refine go_iconst (x := (0 : Int32)) (d_M_hurt 60 rfl) (by decide) ?_
    refine go_istore (lv' := [(0, .ref (ad (100))), (1, .int x1), (2, .int x2), (3, .int ((r_4.2.2.2 109 x1.toNatClampNeg))), (4, .int ((0 : Int32))), (5, .int ((0 : Int32)))]) (d_M_hurt 61 rfl) (by decide) rfl ?_
    exact b_M_hurt_63 hl  FU (x1) (x2) ((r_4.2.2.2 109 x1.toNatClampNeg)) ((0 : Int32)) ((0 : Int32)) (v_10) h
  · refine go_if_eq (tgt := 43) (d_M_hurt 38 rfl) (by decide) (fun q => absurd q (of_decide_eq_false c_7)) (fun _ => ?_)
    refine go_iconst (x := (0 : Int32)) (d_M_hurt 41 rfl) (by decide) ?_
    exact go_iret (d_M_hurt 42 rfl) rfl rfl (Option.some.inj h) (by decide) (by decide)
def f_M_hurt_14  (x1 : Int32) (x2 : Int32) (y1 : Int32) (v : go_V) : Option go_R := bd (f_M_in x2 (0 : Int32) (10000 : Int32) v) (fun r_1 => nt r_1 (br (decide (r_1.2.1 = 0)) (f_M_hurt_30  (x1) (x2) (y1) ((1 : Int32)) (r_1.2.2.2)) (f_M_hurt_30  (x1) (x2) (y1) ((0 : Int32)) (r_1.2.2.2))))
set_option maxHeartbeats 4000000 in
set_option maxRecDepth 100000 in
theorem b_M_hurt_14 {l : Launch} {G : go_G} {ad : Nat → Nat} (hl : l.stackTraces = false) {r : go_R}  (x1 : Int32) (x2 : Int32) (y1 : Int32) (v : go_V) (h : f_M_hurt_14  x1 x2 y1 v = some r) : Go l G M_M_hurt go_Ex0 (go_E G ad 1 r 0 0) ad v [(0, .ref (ad (100))), (1, .int x1), (2, .int x2)] 14 [.int y1, .ref (ad (100))] 0 0 := by
  unfold f_M_hurt_14 at h
  refine go_iload_n (d_M_hurt 14 rfl) rfl rfl ?_
  refine go_iconst (x := (0 : Int32)) (d_M_hurt 15 rfl) (by decide) ?_
  refine go_sipush (x := (10000 : Int32)) (d_M_hurt 16 rfl) (by decide) ?_
  obtain ⟨r_1, o_2, h⟩ := bd_some h
  obtain ⟨z_3, h⟩ := nt_some h
  refine go_cS (As := [.int x2, .int ((0 : Int32)), .int ((10000 : Int32))]) (rest := [.int y1, .ref (ad (100))]) (st2 := [.int (r_1.2.1), .int y1, .ref (ad (100))]) (c2 := 0) (s2 := 0) rfl rfl rfl rfl (Ca_M_in hl o_2)  (d_M_hurt 19 rfl) cw_M_73 w_639 ⟨by decide, by decide⟩ rfl (Nat.le_of_ble_eq_true rfl) ⟨by decide, by decide⟩ (fun _ => ?_) (fun q => absurd z_3 q)
  rcases br_some h with ⟨c_4, h⟩ | ⟨c_4, h⟩
  · refine go_if_ne (tgt := 29) (d_M_hurt 22 rfl) (by decide) (fun q => absurd (of_decide_eq_true c_4) q) (fun _ => ?_)
    refine go_iconst (x := (1 : Int32)) (d_M_hurt 25 rfl) (by decide) ?_
    refine go_goto (tgt := 30) (d_M_hurt 26 rfl) (by decide) ?_
    exact b_M_hurt_30 hl  (x1) (x2) (y1) ((1 : Int32)) (r_1.2.2.2) h
  · refine go_if_ne (tgt := 29) (d_M_hurt 22 rfl) (by decide) (fun _ => ?_) (fun q => absurd q (of_decide_eq_false c_4))
    refine go_iconst (x := (0 : Int32)) (d_M_hurt 29 rfl) (by decide) ?_
    exact b_M_hurt_30 hl  (x1) (x2) (y1) ((0 : Int32)) (r_1.2.2.2) h
def f_M_hurt (x1 : Int32) (x2 : Int32) (v : go_V) : Option go_R := bd (f_M_isIncident x1 v) (fun r_1 => nt r_1 (br (decide (r_1.2.1 = 0)) (f_M_hurt_14  (x1) (x2) ((1 : Int32)) (r_1.2.2.2)) (f_M_hurt_14  (x1) (x2) ((0 : Int32)) (r_1.2.2.2))))
set_option maxHeartbeats 4000000 in
set_option maxRecDepth 100000 in
theorem Ca_M_hurt {l : Launch} {G : go_G} {ad : Nat → Nat} (hl : l.stackTraces = false) {r : go_R} {x1 : Int32} {x2 : Int32} {v : go_V} (h : f_M_hurt x1 x2 v = some r) : Ca l G y_M_hurt (.code y_M_hurt c_M_hurt 6 (some .int) :: go_TT) (rmD 3 0) 1 ad [.ref (ad (100)), .int x1, .int x2] v r := by
  unfold f_M_hurt at h
  refine go_body (own := RM) (by decide) rfl (Nat.le_of_ble_eq_true rfl) ?_
  show Go l G M_M_hurt go_Ex0 (go_E G ad 1 r 0 0) ad v [(0, .ref (ad (100))), (1, .int x1), (2, .int x2)] 0 [] 0 0
  refine go_aload_n (d_M_hurt 0 rfl) rfl rfl ?_
  refine go_aload_n (d_M_hurt 1 rfl) rfl rfl ?_
  refine go_iload_n (d_M_hurt 2 rfl) rfl rfl ?_
  obtain ⟨r_1, o_2, h⟩ := bd_some h
  obtain ⟨z_3, h⟩ := nt_some h
  refine go_cV (As := [.int x1]) (rest := [.ref (ad (100))]) (st2 := [.int (r_1.2.1), .ref (ad (100))]) (c2 := 0) (s2 := 0) rfl rfl rfl rfl (Ca_M_isIncident hl o_2)  (d_M_hurt 3 rfl) cw_M_77 ⟨w_664, w_19⟩ rfl (by decide) rfl ⟨by decide, by decide⟩ rfl (Nat.le_of_ble_eq_true rfl) ⟨by decide, by decide⟩ (fun _ => ?_) (fun q => absurd z_3 q)
  rcases br_some h with ⟨c_4, h⟩ | ⟨c_4, h⟩
  · refine go_if_ne (tgt := 13) (d_M_hurt 6 rfl) (by decide) (fun q => absurd (of_decide_eq_true c_4) q) (fun _ => ?_)
    refine go_iconst (x := (1 : Int32)) (d_M_hurt 9 rfl) (by decide) ?_
    refine go_goto (tgt := 14) (d_M_hurt 10 rfl) (by decide) ?_
    exact b_M_hurt_14 hl  (x1) (x2) ((1 : Int32)) (r_1.2.2.2) h
  · refine go_if_ne (tgt := 13) (d_M_hurt 6 rfl) (by decide) (fun _ => ?_) (fun q => absurd q (of_decide_eq_false c_4))
    refine go_iconst (x := (0 : Int32)) (d_M_hurt 13 rfl) (by decide) ?_
    exact b_M_hurt_14 hl  (x1) (x2) ((0 : Int32)) (r_1.2.2.2) h
abbrev M_M_ask : go_M := (c_M_ask, 3, (some .int), RM, [], rmD 3 0)
def f_M_ask_29  (x1 : Int32) (x2 : Int32) (y1 : Int32) (y2 : Int32) (v : go_V) : Option go_R := bd (f_M_isClosed x1 v) (fun r_1 => nt r_1 (bd (f_M_throwing y1 y2 r_1.2.1 r_1.2.2.2) (fun r_4 => nt r_4 (br (decide (r_4.2.1 = 0)) (bd (f_M_all (3 : Int32) x2 x1 r_4.2.2.2) (fun r_8 => nt r_8 (some (0, r_8.2.1, 0, r_8.2.2.2)))) (some (0, (0 : Int32), 0, r_4.2.2.2))))))
set_option maxHeartbeats 4000000 in
set_option maxRecDepth 100000 in
theorem b_M_ask_29 {l : Launch} {G : go_G} {ad : Nat → Nat} (hl : l.stackTraces = false) {r : go_R}  (x1 : Int32) (x2 : Int32) (y1 : Int32) (y2 : Int32) (v : go_V) (h : f_M_ask_29  x1 x2 y1 y2 v = some r) : Go l G M_M_ask go_Ex0 (go_E G ad 1 r 0 0) ad v [(0, .ref (ad (100))), (1, .int x1), (2, .int x2)] 29 [.int y2, .int y1, .ref (ad (100))] 0 0 := by
  unfold f_M_ask_29 at h
  refine go_aload_n (d_M_ask 29 rfl) rfl rfl ?_
  refine go_iload_n (d_M_ask 30 rfl) rfl rfl ?_
  obtain ⟨r_1, o_2, h⟩ := bd_some h
  obtain ⟨z_3, h⟩ := nt_some h
  refine go_cV (As := [.int x1]) (rest := [.int y2, .int y1, .ref (ad (100))]) (st2 := [.int (r_1.2.1), .int y2, .int y1, .ref (ad (100))]) (c2 := 0) (s2 := 0) rfl rfl rfl rfl (Ca_M_isClosed hl o_2)  (d_M_ask 31 rfl) cw_M_98 ⟨w_668, w_20⟩ rfl (by decide) rfl ⟨by decide, by decide⟩ rfl (Nat.le_of_ble_eq_true rfl) ⟨by decide, by decide⟩ (fun _ => ?_) (fun q => absurd z_3 q)
  obtain ⟨r_4, o_5, h⟩ := bd_some h
  obtain ⟨z_6, h⟩ := nt_some h
  refine go_cV (As := [.int y1, .int y2, .int (r_1.2.1)]) (rest := []) (st2 := [.int (r_4.2.1)]) (c2 := 0) (s2 := 0) rfl rfl rfl rfl (Ca_M_throwing hl o_5)  (d_M_ask 34 rfl) cw_M_84 ⟨w_643, w_18⟩ rfl (by decide) rfl ⟨by decide, by decide⟩ rfl (Nat.le_of_ble_eq_true rfl) ⟨by decide, by decide⟩ (fun _ => ?_) (fun q => absurd z_6 q)
  rcases br_some h with ⟨c_7, h⟩ | ⟨c_7, h⟩
  · refine go_if_eq (tgt := 42) (d_M_ask 37 rfl) (by decide) (fun _ => ?_) (fun q => absurd (of_decide_eq_true c_7) q)
    refine go_aload_n (d_M_ask 42 rfl) rfl rfl ?_
    refine go_iconst (x := (3 : Int32)) (d_M_ask 43 rfl) (by decide) ?_
    refine go_iload_n (d_M_ask 44 rfl) rfl rfl ?_
    refine go_iload_n (d_M_ask 45 rfl) rfl rfl ?_
    obtain ⟨r_8, o_9, h⟩ := bd_some h
    obtain ⟨z_10, h⟩ := nt_some h
    refine go_cV (As := [.int ((3 : Int32)), .int x2, .int x1]) (rest := []) (st2 := [.int (r_8.2.1)]) (c2 := 0) (s2 := 0) rfl rfl rfl rfl (Ca_M_all hl o_9)  (d_M_ask 46 rfl) cw_M_117 ⟨w_685, w_23⟩ rfl (by decide) rfl ⟨by decide, by decide⟩ rfl (Nat.le_of_ble_eq_true rfl) ⟨by decide, by decide⟩ (fun _ => ?_) (fun q => absurd z_10 q)
    exact go_iret (d_M_ask 49 rfl) rfl rfl (Option.some.inj h) (by decide) (by decide)
  · refine go_if_eq (tgt := 42) (d_M_ask 37 rfl) (by decide) (fun q => absurd q (of_decide_eq_false c_7)) (fun _ => ?_)
    refine go_iconst (x := (0 : Int32)) (d_M_ask 40 rfl) (by decide) ?_
    exact go_iret (d_M_ask 41 rfl) rfl rfl (Option.some.inj h) (by decide) (by decide)
def f_M_ask_14  (x1 : Int32) (x2 : Int32) (y1 : Int32) (v : go_V) : Option go_R := bd (f_M_in x2 (0 : Int32) (9 : Int32) v) (fun r_1 => nt r_1 (br (decide (r_1.2.1 = 0)) (f_M_ask_29  (x1) (x2) (y1) ((1 : Int32)) (r_1.2.2.2)) (f_M_ask_29  (x1) (x2) (y1) ((0 : Int32)) (r_1.2.2.2))))
set_option maxHeartbeats 4000000 in
set_option maxRecDepth 100000 in
theorem b_M_ask_14 {l : Launch} {G : go_G} {ad : Nat → Nat} (hl : l.stackTraces = false) {r : go_R}  (x1 : Int32) (x2 : Int32) (y1 : Int32) (v : go_V) (h : f_M_ask_14  x1 x2 y1 v = some r) : Go l G M_M_ask go_Ex0 (go_E G ad 1 r 0 0) ad v [(0, .ref (ad (100))), (1, .int x1), (2, .int x2)] 14 [.int y1, .ref (ad (100))] 0 0 := by
  unfold f_M_ask_14 at h
  refine go_iload_n (d_M_ask 14 rfl) rfl rfl ?_
  refine go_iconst (x := (0 : Int32)) (d_M_ask 15 rfl) (by decide) ?_
  refine go_bipush (x := (9 : Int32)) (d_M_ask 16 rfl) (by decide) ?_
  obtain ⟨r_1, o_2, h⟩ := bd_some h
  obtain ⟨z_3, h⟩ := nt_some h
  refine go_cS (As := [.int x2, .int ((0 : Int32)), .int ((9 : Int32))]) (rest := [.int y1, .ref (ad (100))]) (st2 := [.int (r_1.2.1), .int y1, .ref (ad (100))]) (c2 := 0) (s2 := 0) rfl rfl rfl rfl (Ca_M_in hl o_2)  (d_M_ask 18 rfl) cw_M_73 w_639 ⟨by decide, by decide⟩ rfl (Nat.le_of_ble_eq_true rfl) ⟨by decide, by decide⟩ (fun _ => ?_) (fun q => absurd z_3 q)
  rcases br_some h with ⟨c_4, h⟩ | ⟨c_4, h⟩
  · refine go_if_ne (tgt := 28) (d_M_ask 21 rfl) (by decide) (fun q => absurd (of_decide_eq_true c_4) q) (fun _ => ?_)
    refine go_iconst (x := (1 : Int32)) (d_M_ask 24 rfl) (by decide) ?_
    refine go_goto (tgt := 29) (d_M_ask 25 rfl) (by decide) ?_
    exact b_M_ask_29 hl  (x1) (x2) (y1) ((1 : Int32)) (r_1.2.2.2) h
  · refine go_if_ne (tgt := 28) (d_M_ask 21 rfl) (by decide) (fun _ => ?_) (fun q => absurd q (of_decide_eq_false c_4))
    refine go_iconst (x := (0 : Int32)) (d_M_ask 28 rfl) (by decide) ?_
    exact b_M_ask_29 hl  (x1) (x2) (y1) ((0 : Int32)) (r_1.2.2.2) h
def f_M_ask (x1 : Int32) (x2 : Int32) (v : go_V) : Option go_R := bd (f_M_isIncident x1 v) (fun r_1 => nt r_1 (br (decide (r_1.2.1 = 0)) (f_M_ask_14  (x1) (x2) ((1 : Int32)) (r_1.2.2.2)) (f_M_ask_14  (x1) (x2) ((0 : Int32)) (r_1.2.2.2))))
set_option maxHeartbeats 4000000 in
set_option maxRecDepth 100000 in
theorem Ca_M_ask {l : Launch} {G : go_G} {ad : Nat → Nat} (hl : l.stackTraces = false) {r : go_R} {x1 : Int32} {x2 : Int32} {v : go_V} (h : f_M_ask x1 x2 v = some r) : Ca l G y_M_ask (.code y_M_ask c_M_ask 3 (some .int) :: go_TT) (rmD 3 0) 1 ad [.ref (ad (100)), .int x1, .int x2] v r := by
  unfold f_M_ask at h
  refine go_body (own := RM) (by decide) rfl (Nat.le_of_ble_eq_true rfl) ?_
  show Go l G M_M_ask go_Ex0 (go_E G ad 1 r 0 0) ad v [(0, .ref (ad (100))), (1, .int x1), (2, .int x2)] 0 [] 0 0
  refine go_aload_n (d_M_ask 0 rfl) rfl rfl ?_
  refine go_aload_n (d_M_ask 1 rfl) rfl rfl ?_
  refine go_iload_n (d_M_ask 2 rfl) rfl rfl ?_
  obtain ⟨r_1, o_2, h⟩ := bd_some h
  obtain ⟨z_3, h⟩ := nt_some h
  refine go_cV (As := [.int x1]) (rest := [.ref (ad (100))]) (st2 := [.int (r_1.2.1), .ref (ad (100))]) (c2 := 0) (s2 := 0) rfl rfl rfl rfl (Ca_M_isIncident hl o_2)  (d_M_ask 3 rfl) cw_M_77 ⟨w_664, w_19⟩ rfl (by decide) rfl ⟨by decide, by decide⟩ rfl (Nat.le_of_ble_eq_true rfl) ⟨by decide, by decide⟩ (fun _ => ?_) (fun q => absurd z_3 q)
  rcases br_some h with ⟨c_4, h⟩ | ⟨c_4, h⟩
  · refine go_if_ne (tgt := 13) (d_M_ask 6 rfl) (by decide) (fun q => absurd (of_decide_eq_true c_4) q) (fun _ => ?_)
    refine go_iconst (x := (1 : Int32)) (d_M_ask 9 rfl) (by decide) ?_
    refine go_goto (tgt := 14) (d_M_ask 10 rfl) (by decide) ?_
    exact b_M_ask_14 hl  (x1) (x2) ((1 : Int32)) (r_1.2.2.2) h
  · refine go_if_ne (tgt := 13) (d_M_ask 6 rfl) (by decide) (fun _ => ?_) (fun q => absurd q (of_decide_eq_false c_4))
    refine go_iconst (x := (0 : Int32)) (d_M_ask 13 rfl) (by decide) ?_
    exact b_M_ask_14 hl  (x1) (x2) ((0 : Int32)) (r_1.2.2.2) h
abbrev M_M_tell : go_M := (c_M_tell, 2, none, RM, [], rmD 3 0)
def f_M_tell_14  (x1 : Int32) (y1 : Int32) (v : go_V) : Option go_R := bd (f_M_isClosed x1 v) (fun r_1 => nt r_1 (bd (f_M_throwing y1 r_1.2.1 (0 : Int32) r_1.2.2.2) (fun r_4 => nt r_4 (br (decide (r_4.2.1 = 0)) (gd (go_in x1 12) (ln (u2 r_4.2.2.2 110 x1.toNatClampNeg (r_4.2.2.2 100 1)) (fun v_9 => some (0, 0, 0, v_9)))) (some (0, 0, 0, r_4.2.2.2))))))
set_option maxHeartbeats 4000000 in
set_option maxRecDepth 100000 in
theorem b_M_tell_14 {l : Launch} {G : go_G} {ad : Nat → Nat} (hl : l.stackTraces = false) {r : go_R}  (x1 : Int32) (y1 : Int32) (v : go_V) (h : f_M_tell_14  x1 y1 v = some r) : Go l G M_M_tell go_Ex0 (go_E G ad 0 r 0 0) ad v [(0, .ref (ad (100))), (1, .int x1)] 14 [.int y1, .ref (ad (100))] 0 0 := by
  unfold f_M_tell_14 at h
  refine go_aload_n (d_M_tell 14 rfl) rfl rfl ?_
  refine go_iload_n (d_M_tell 15 rfl) rfl rfl ?_
  obtain ⟨r_1, o_2, h⟩ := bd_some h
  obtain ⟨z_3, h⟩ := nt_some h
  refine go_cV (As := [.int x1]) (rest := [.int y1, .ref (ad (100))]) (st2 := [.int (r_1.2.1), .int y1, .ref (ad (100))]) (c2 := 0) (s2 := 0) rfl rfl rfl rfl (Ca_M_isClosed hl o_2)  (d_M_tell 16 rfl) cw_M_98 ⟨w_668, w_20⟩ rfl (by decide) rfl ⟨by decide, by decide⟩ rfl (Nat.le_of_ble_eq_true rfl) ⟨by decide, by decide⟩ (fun _ => ?_) (fun q => absurd z_3 q)
  refine go_iconst (x := (0 : Int32)) (d_M_tell 19 rfl) (by decide) ?_
  obtain ⟨r_4, o_5, h⟩ := bd_some h
  obtain ⟨z_6, h⟩ := nt_some h
  refine go_cV (As := [.int y1, .int (r_1.2.1), .int ((0 : Int32))]) (rest := []) (st2 := [.int (r_4.2.1)]) (c2 := 0) (s2 := 0) rfl rfl rfl rfl (Ca_M_throwing hl o_5)  (d_M_tell 20 rfl) cw_M_84 ⟨w_643, w_18⟩ rfl (by decide) rfl ⟨by decide, by decide⟩ rfl (Nat.le_of_ble_eq_true rfl) ⟨by decide, by decide⟩ (fun _ => ?_) (fun q => absurd z_6 q)
  rcases br_some h with ⟨c_7, h⟩ | ⟨c_7, h⟩
  · refine go_if_eq (tgt := 27) (d_M_tell 23 rfl) (by decide) (fun _ => ?_) (fun q => absurd (of_decide_eq_true c_7) q)
    refine go_aload_n (d_M_tell 27 rfl) rfl rfl ?_
    refine go_getR (d_M_tell 28 rfl) fl_M_38 rfl rfl ?_
    show Go _ _ _ _ _ _ _ _ _ (.ref (ad (110)) :: []) _ _
    refine go_iload_n (d_M_tell 31 rfl) rfl rfl ?_
    refine go_aload_n (d_M_tell 32 rfl) rfl rfl ?_
    refine go_getI (d_M_tell 33 rfl) fl_M_95 rfl rfl ?_
    obtain ⟨g_8, h⟩ := gd_some h
    obtain ⟨v_9, ev_9, h⟩ := ln_some h
    refine go_iast (y := (r_4.2.2.2 100 1)) (d_M_tell 36 rfl) rfl g_8 ?_
    rw [← ev_9]
    exact go_vret (d_M_tell 37 rfl) rfl (Option.some.inj h) (by decide) (by decide)
  · refine go_if_eq (tgt := 27) (d_M_tell 23 rfl) (by decide) (fun q => absurd q (of_decide_eq_false c_7)) (fun _ => ?_)
    exact go_vret (d_M_tell 26 rfl) rfl (Option.some.inj h) (by decide) (by decide)
def f_M_tell (x1 : Int32) (v : go_V) : Option go_R := bd (f_M_isIncident x1 v) (fun r_1 => nt r_1 (br (decide (r_1.2.1 = 0)) (f_M_tell_14  (x1) ((1 : Int32)) (r_1.2.2.2)) (f_M_tell_14  (x1) ((0 : Int32)) (r_1.2.2.2))))
set_option maxHeartbeats 4000000 in
set_option maxRecDepth 100000 in
theorem Ca_M_tell {l : Launch} {G : go_G} {ad : Nat → Nat} (hl : l.stackTraces = false) {r : go_R} {x1 : Int32} {v : go_V} (h : f_M_tell x1 v = some r) : Ca l G y_M_tell (.code y_M_tell c_M_tell 2 none :: go_TT) (rmD 3 0) 0 ad [.ref (ad (100)), .int x1] v r := by
  unfold f_M_tell at h
  refine go_body (own := RM) (by decide) rfl (Nat.le_of_ble_eq_true rfl) ?_
  show Go l G M_M_tell go_Ex0 (go_E G ad 0 r 0 0) ad v [(0, .ref (ad (100))), (1, .int x1)] 0 [] 0 0
  refine go_aload_n (d_M_tell 0 rfl) rfl rfl ?_
  refine go_aload_n (d_M_tell 1 rfl) rfl rfl ?_
  refine go_iload_n (d_M_tell 2 rfl) rfl rfl ?_
  obtain ⟨r_1, o_2, h⟩ := bd_some h
  obtain ⟨z_3, h⟩ := nt_some h
  refine go_cV (As := [.int x1]) (rest := [.ref (ad (100))]) (st2 := [.int (r_1.2.1), .ref (ad (100))]) (c2 := 0) (s2 := 0) rfl rfl rfl rfl (Ca_M_isIncident hl o_2)  (d_M_tell 3 rfl) cw_M_77 ⟨w_664, w_19⟩ rfl (by decide) rfl ⟨by decide, by decide⟩ rfl (Nat.le_of_ble_eq_true rfl) ⟨by decide, by decide⟩ (fun _ => ?_) (fun q => absurd z_3 q)
  rcases br_some h with ⟨c_4, h⟩ | ⟨c_4, h⟩
  · refine go_if_ne (tgt := 13) (d_M_tell 6 rfl) (by decide) (fun q => absurd (of_decide_eq_true c_4) q) (fun _ => ?_)
    refine go_iconst (x := (1 : Int32)) (d_M_tell 9 rfl) (by decide) ?_
    refine go_goto (tgt := 14) (d_M_tell 10 rfl) (by decide) ?_
    exact b_M_tell_14 hl  (x1) ((1 : Int32)) (r_1.2.2.2) h
  · refine go_if_ne (tgt := 13) (d_M_tell 6 rfl) (by decide) (fun _ => ?_) (fun q => absurd q (of_decide_eq_false c_4))
    refine go_iconst (x := (0 : Int32)) (d_M_tell 13 rfl) (by decide) ?_
    exact b_M_tell_14 hl  (x1) ((0 : Int32)) (r_1.2.2.2) h
abbrev M_M_withSkill : go_M := (c_M_withSkill, 5, (some .int), RM, [], rmD 1 0)
def f_M_withSkill_41 (rec5 : Int32 → Int32 → Int32 → Int32 → go_V → Option go_R) (x1 : Int32) (x2 : Int32) (x3 : Int32) (x4 : Int32) (y0 : Int32) (y1 : Int32) (v : go_V) : Option go_R := rec5 (x1) (x2) ((y0 + y1)) ((x4 + 1)) (v)
set_option maxHeartbeats 4000000 in
set_option maxRecDepth 100000 in
theorem b_M_withSkill_41 {l : Launch} {G : go_G} {ad : Nat → Nat} (hl : l.stackTraces = false) {r : go_R} (rec5 : Int32 → Int32 → Int32 → Int32 → go_V → Option go_R) (hrec5 : ∀ (x1 : Int32) (x2 : Int32) (x3 : Int32) (x4 : Int32) (v : go_V), rec5 x1 x2 x3 x4 v = some r → Go l G M_M_withSkill go_Ex0 (go_E G ad 1 r 0 0) ad v [(0, .ref (ad (100))), (1, .int x1), (2, .int x2), (3, .int x3), (4, .int x4)] 5 [] 0 0) (x1 : Int32) (x2 : Int32) (x3 : Int32) (x4 : Int32) (y0 : Int32) (y1 : Int32) (v : go_V) (h : f_M_withSkill_41 rec5 x1 x2 x3 x4 y0 y1 v = some r) : Go l G M_M_withSkill go_Ex0 (go_E G ad 1 r 0 0) ad v [(0, .ref (ad (100))), (1, .int x1), (2, .int x2), (3, .int x3), (4, .int x4)] 41 [.int y1, .int y0] 0 0 := by
  unfold f_M_withSkill_41 at h
  refine go_iadd (d_M_withSkill 41 rfl) ?_
  refine go_istore_n (lv' := [(0, .ref (ad (100))), (1, .int x1), (2, .int x2), (3, .int ((y0 + y1))), (4, .int x4)]) (d_M_withSkill 42 rfl) rfl (by decide) rfl ?_
  refine go_iinc (y := (x4 + 1)) (lv' := [(0, .ref (ad (100))), (1, .int x1), (2, .int x2), (3, .int ((y0 + y1))), (4, .int ((x4 + 1)))]) (d_M_withSkill 43 rfl) rfl rfl (by decide) rfl ?_
  refine go_goto (tgt := 5) (d_M_withSkill 46 rfl) (by decide) ?_
  exact hrec5 (x1) (x2) ((y0 + y1)) ((x4 + 1)) (v) h
def f_M_withSkill_40 (rec5 : Int32 → Int32 → Int32 → Int32 → go_V → Option go_R) (x1 : Int32) (x2 : Int32) (x3 : Int32) (x4 : Int32) (y0 : Int32) (v : go_V) : Option go_R := f_M_withSkill_41 (rec5) (x1) (x2) (x3) (x4) (y0) ((0 : Int32)) (v)
set_option maxHeartbeats 4000000 in
set_option maxRecDepth 100000 in
theorem b_M_withSkill_40 {l : Launch} {G : go_G} {ad : Nat → Nat} (hl : l.stackTraces = false) {r : go_R} (rec5 : Int32 → Int32 → Int32 → Int32 → go_V → Option go_R) (hrec5 : ∀ (x1 : Int32) (x2 : Int32) (x3 : Int32) (x4 : Int32) (v : go_V), rec5 x1 x2 x3 x4 v = some r → Go l G M_M_withSkill go_Ex0 (go_E G ad 1 r 0 0) ad v [(0, .ref (ad (100))), (1, .int x1), (2, .int x2), (3, .int x3), (4, .int x4)] 5 [] 0 0) (x1 : Int32) (x2 : Int32) (x3 : Int32) (x4 : Int32) (y0 : Int32) (v : go_V) (h : f_M_withSkill_40 rec5 x1 x2 x3 x4 y0 v = some r) : Go l G M_M_withSkill go_Ex0 (go_E G ad 1 r 0 0) ad v [(0, .ref (ad (100))), (1, .int x1), (2, .int x2), (3, .int x3), (4, .int x4)] 40 [.int y0] 0 0 := by
  unfold f_M_withSkill_40 at h
  refine go_iconst (x := (0 : Int32)) (d_M_withSkill 40 rfl) (by decide) ?_
  exact b_M_withSkill_41 hl _ hrec5 (x1) (x2) (x3) (x4) (y0) ((0 : Int32)) (v) h
def f_M_withSkill_5  : Nat → Int32 → Int32 → Int32 → Int32 → go_V → Option go_R
  | 0, _, _, _, _, _ => none
  | n + 1, x1, x2, x3, x4, v => br (decide ((v 100 19) ≤ x4)) (some (0, x3, 0, v)) (bd (f_M_isWith x4 x1 v) (fun r_2 => nt r_2 (br (decide (r_2.2.1 = 0)) (f_M_withSkill_40 (f_M_withSkill_5 n) (x1) (x2) (x3) (x4) (x3) (r_2.2.2.2)) (gd (go_in x4 40) (br (decide ((r_2.2.2.2 115 x4.toNatClampNeg) = x2)) (f_M_withSkill_41 (f_M_withSkill_5 n) (x1) (x2) (x3) (x4) (x3) ((1 : Int32)) (r_2.2.2.2)) (f_M_withSkill_40 (f_M_withSkill_5 n) (x1) (x2) (x3) (x4) (x3) (r_2.2.2.2)))))))
set_option maxHeartbeats 4000000 in
set_option maxRecDepth 100000 in
theorem b_M_withSkill_5 {l : Launch} {G : go_G} {ad : Nat → Nat} (hl : l.stackTraces = false) {r : go_R}  : ∀ (n : Nat) (x1 : Int32) (x2 : Int32) (x3 : Int32) (x4 : Int32) (v : go_V), f_M_withSkill_5  n x1 x2 x3 x4 v = some r → Go l G M_M_withSkill go_Ex0 (go_E G ad 1 r 0 0) ad v [(0, .ref (ad (100))), (1, .int x1), (2, .int x2), (3, .int x3), (4, .int x4)] 5 [] 0 0 := by
  intro n
  induction n with
  | zero =>
    intro x1 x2 x3 x4 v h
    cases h
  | succ n ih =>
    intro x1 x2 x3 x4 v h
    rw [f_M_withSkill_5] at h
    refine go_iload (d_M_withSkill 5 rfl) rfl ?_
    refine go_aload_n (d_M_withSkill 7 rfl) rfl rfl ?_
    refine go_getI (d_M_withSkill 8 rfl) fl_M_81 rfl rfl ?_
    rcases br_some h with ⟨c_1, h⟩ | ⟨c_1, h⟩
    · refine go_icmp_ge (tgt := 49) (d_M_withSkill 11 rfl) (by decide) (fun _ => ?_) (fun q => absurd (of_decide_eq_true c_1) q)
      refine go_iload_n (d_M_withSkill 49 rfl) rfl rfl ?_
      exact go_iret (d_M_withSkill 50 rfl) rfl rfl (Option.some.inj h) (by decide) (by decide)
    · refine go_icmp_ge (tgt := 49) (d_M_withSkill 11 rfl) (by decide) (fun q => absurd q (of_decide_eq_false c_1)) (fun _ => ?_)
      refine go_iload_n (d_M_withSkill 14 rfl) rfl rfl ?_
      refine go_aload_n (d_M_withSkill 15 rfl) rfl rfl ?_
      refine go_iload (d_M_withSkill 16 rfl) rfl ?_
      refine go_iload_n (d_M_withSkill 18 rfl) rfl rfl ?_
      obtain ⟨r_2, o_3, h⟩ := bd_some h
      obtain ⟨z_4, h⟩ := nt_some h
      refine go_cV (As := [.int x4, .int x1]) (rest := [.int x3]) (st2 := [.int (r_2.2.1), .int x3]) (c2 := 0) (s2 := 0) rfl rfl rfl rfl (Ca_M_isWith hl o_3)  (d_M_withSkill 19 rfl) cw_M_101 ⟨w_672, w_21⟩ rfl (by decide) rfl ⟨by decide, by decide⟩ rfl (Nat.le_of_ble_eq_true rfl) ⟨by decide, by decide⟩ (fun _ => ?_) (fun q => absurd z_4 q)
      rcases br_some h with ⟨c_5, h⟩ | ⟨c_5, h⟩
      · refine go_if_eq (tgt := 40) (d_M_withSkill 22 rfl) (by decide) (fun _ => ?_) (fun q => absurd (of_decide_eq_true c_5) q)
        exact b_M_withSkill_40 hl _ ih (x1) (x2) (x3) (x4) (x3) (r_2.2.2.2) h
      · refine go_if_eq (tgt := 40) (d_M_withSkill 22 rfl) (by decide) (fun q => absurd q (of_decide_eq_false c_5)) (fun _ => ?_)
        refine go_aload_n (d_M_withSkill 25 rfl) rfl rfl ?_
        refine go_getR (d_M_withSkill 26 rfl) fl_M_53 rfl rfl ?_
        show Go _ _ _ _ _ _ _ _ _ (.ref (ad (115)) :: .int x3 :: []) _ _
        refine go_iload (d_M_withSkill 29 rfl) rfl ?_
        obtain ⟨g_6, h⟩ := gd_some h
        refine go_iald (d_M_withSkill 31 rfl) rfl g_6 ?_
        refine go_iload_n (d_M_withSkill 32 rfl) rfl rfl ?_
        rcases br_some h with ⟨c_7, h⟩ | ⟨c_7, h⟩
        · refine go_icmp_ne (tgt := 40) (d_M_withSkill 33 rfl) (by decide) (fun q => absurd (of_decide_eq_true c_7) q) (fun _ => ?_)
          refine go_iconst (x := (1 : Int32)) (d_M_withSkill 36 rfl) (by decide) ?_
          refine go_goto (tgt := 41) (d_M_withSkill 37 rfl) (by decide) ?_
          exact b_M_withSkill_41 hl _ ih (x1) (x2) (x3) (x4) (x3) ((1 : Int32)) (r_2.2.2.2) h
        · refine go_icmp_ne (tgt := 40) (d_M_withSkill 33 rfl) (by decide) (fun _ => ?_) (fun q => absurd q (of_decide_eq_false c_7))
          exact b_M_withSkill_40 hl _ ih (x1) (x2) (x3) (x4) (x3) (r_2.2.2.2) h
def f_M_withSkill (x1 : Int32) (x2 : Int32) (v : go_V) : Option go_R := f_M_withSkill_5  FU (x1) (x2) ((0 : Int32)) ((0 : Int32)) (v)
set_option maxHeartbeats 4000000 in
set_option maxRecDepth 100000 in
theorem Ca_M_withSkill {l : Launch} {G : go_G} {ad : Nat → Nat} (hl : l.stackTraces = false) {r : go_R} {x1 : Int32} {x2 : Int32} {v : go_V} (h : f_M_withSkill x1 x2 v = some r) : Ca l G y_M_withSkill (.code y_M_withSkill c_M_withSkill 5 (some .int) :: go_TT) (rmD 1 0) 1 ad [.ref (ad (100)), .int x1, .int x2] v r := by
  unfold f_M_withSkill at h
  refine go_body (own := RM) (by decide) rfl (Nat.le_of_ble_eq_true rfl) ?_
  show Go l G M_M_withSkill go_Ex0 (go_E G ad 1 r 0 0) ad v [(0, .ref (ad (100))), (1, .int x1), (2, .int x2)] 0 [] 0 0
  refine go_iconst (x := (0 : Int32)) (d_M_withSkill 0 rfl) (by decide) ?_
  refine go_istore_n (lv' := [(0, .ref (ad (100))), (1, .int x1), (2, .int x2), (3, .int ((0 : Int32)))]) (d_M_withSkill 1 rfl) rfl (by decide) rfl ?_
  refine go_iconst (x := (0 : Int32)) (d_M_withSkill 2 rfl) (by decide) ?_
  refine go_istore (lv' := [(0, .ref (ad (100))), (1, .int x1), (2, .int x2), (3, .int ((0 : Int32))), (4, .int ((0 : Int32)))]) (d_M_withSkill 3 rfl) (by decide) rfl ?_
  exact b_M_withSkill_5 hl  FU (x1) (x2) ((0 : Int32)) ((0 : Int32)) (v) h
abbrev M_M_goesAhead : go_M := (c_M_goesAhead, 3, (some .boolean), RM, [], rmD 0 0)
def f_M_goesAhead_66  (x1 : Int32) (x2 : Int32) (v : go_V) : Option go_R := some (0, (1 : Int32), 0, v)
set_option maxHeartbeats 4000000 in
set_option maxRecDepth 100000 in
theorem b_M_goesAhead_66 {l : Launch} {G : go_G} {ad : Nat → Nat} (hl : l.stackTraces = false) {r : go_R}  (x1 : Int32) (x2 : Int32) (v : go_V) (h : f_M_goesAhead_66  x1 x2 v = some r) : Go l G M_M_goesAhead go_Ex0 (go_E G ad 1 r 0 0) ad v [(0, .ref (ad (100))), (1, .int x1), (2, .int x2)] 66 [] 0 0 := by
  unfold f_M_goesAhead_66 at h
  refine go_iconst (x := (1 : Int32)) (d_M_goesAhead 66 rfl) (by decide) ?_
  refine go_goto (tgt := 71) (d_M_goesAhead 67 rfl) (by decide) ?_
  exact go_iret (d_M_goesAhead 71 rfl) rfl (by decide) (Option.some.inj h) (by decide) (by decide)
def f_M_goesAhead_70  (x1 : Int32) (x2 : Int32) (v : go_V) : Option go_R := some (0, (0 : Int32), 0, v)
set_option maxHeartbeats 4000000 in
set_option maxRecDepth 100000 in
theorem b_M_goesAhead_70 {l : Launch} {G : go_G} {ad : Nat → Nat} (hl : l.stackTraces = false) {r : go_R}  (x1 : Int32) (x2 : Int32) (v : go_V) (h : f_M_goesAhead_70  x1 x2 v = some r) : Go l G M_M_goesAhead go_Ex0 (go_E G ad 1 r 0 0) ad v [(0, .ref (ad (100))), (1, .int x1), (2, .int x2)] 70 [] 0 0 := by
  unfold f_M_goesAhead_70 at h
  refine go_iconst (x := (0 : Int32)) (d_M_goesAhead 70 rfl) (by decide) ?_
  exact go_iret (d_M_goesAhead 71 rfl) rfl (by decide) (Option.some.inj h) (by decide) (by decide)
def f_M_goesAhead (x1 : Int32) (x2 : Int32) (v : go_V) : Option go_R := gd (go_in x1 40) (gd (go_in x2 40) (br (decide ((v 116 x1.toNatClampNeg) = (v 116 x2.toNatClampNeg))) (gd (go_in x1 40) (gd (go_in x2 40) (br (decide ((v 118 x2.toNatClampNeg) < (v 118 x1.toNatClampNeg))) (f_M_goesAhead_66  (x1) (x2) (v)) (gd (go_in x1 40) (gd (go_in x2 40) (br (decide ((v 118 x1.toNatClampNeg) = (v 118 x2.toNatClampNeg))) (br (decide (x1 ≤ x2)) (f_M_goesAhead_70  (x1) (x2) (v)) (f_M_goesAhead_66  (x1) (x2) (v))) (f_M_goesAhead_70  (x1) (x2) (v)))))))) (gd (go_in x1 40) (br (decide ((v 116 x1.toNatClampNeg) = (1 : Int32))) (some (0, (1 : Int32), 0, v)) (some (0, (0 : Int32), 0, v))))))
set_option maxHeartbeats 4000000 in
set_option maxRecDepth 100000 in
theorem Ca_M_goesAhead {l : Launch} {G : go_G} {ad : Nat → Nat} (hl : l.stackTraces = false) {r : go_R} {x1 : Int32} {x2 : Int32} {v : go_V} (h : f_M_goesAhead x1 x2 v = some r) : Ca l G y_M_goesAhead (.code y_M_goesAhead c_M_goesAhead 3 (some .boolean) :: go_TT) (rmD 0 0) 1 ad [.ref (ad (100)), .int x1, .int x2] v r := by
  unfold f_M_goesAhead at h
  refine go_body (own := RM) (by decide) rfl (Nat.le_of_ble_eq_true rfl) ?_
  show Go l G M_M_goesAhead go_Ex0 (go_E G ad 1 r 0 0) ad v [(0, .ref (ad (100))), (1, .int x1), (2, .int x2)] 0 [] 0 0
  refine go_aload_n (d_M_goesAhead 0 rfl) rfl rfl ?_
  refine go_getR (d_M_goesAhead 1 rfl) fl_M_56 rfl rfl ?_
  show Go _ _ _ _ _ _ _ _ _ (.ref (ad (116)) :: []) _ _
  refine go_iload_n (d_M_goesAhead 4 rfl) rfl rfl ?_
  obtain ⟨g_1, h⟩ := gd_some h
  refine go_iald (d_M_goesAhead 5 rfl) rfl g_1 ?_
  refine go_aload_n (d_M_goesAhead 6 rfl) rfl rfl ?_
  refine go_getR (d_M_goesAhead 7 rfl) fl_M_56 rfl rfl ?_
  show Go _ _ _ _ _ _ _ _ _ (.ref (ad (116)) :: .int ((v 116 x1.toNatClampNeg)) :: []) _ _
  refine go_iload_n (d_M_goesAhead 10 rfl) rfl rfl ?_
  obtain ⟨g_2, h⟩ := gd_some h
  refine go_iald (d_M_goesAhead 11 rfl) rfl g_2 ?_
  rcases br_some h with ⟨c_3, h⟩ | ⟨c_3, h⟩
  · refine go_icmp_eq (tgt := 31) (d_M_goesAhead 12 rfl) (by decide) (fun _ => ?_) (fun q => absurd (of_decide_eq_true c_3) q)
    refine go_aload_n (d_M_goesAhead 31 rfl) rfl rfl ?_
    refine go_getR (d_M_goesAhead 32 rfl) fl_M_62 rfl rfl ?_
    show Go _ _ _ _ _ _ _ _ _ (.ref (ad (118)) :: []) _ _
    refine go_iload_n (d_M_goesAhead 35 rfl) rfl rfl ?_
    obtain ⟨g_4, h⟩ := gd_some h
    refine go_iald (d_M_goesAhead 36 rfl) rfl g_4 ?_
    refine go_aload_n (d_M_goesAhead 37 rfl) rfl rfl ?_
    refine go_getR (d_M_goesAhead 38 rfl) fl_M_62 rfl rfl ?_
    show Go _ _ _ _ _ _ _ _ _ (.ref (ad (118)) :: .int ((v 118 x1.toNatClampNeg)) :: []) _ _
    refine go_iload_n (d_M_goesAhead 41 rfl) rfl rfl ?_
    obtain ⟨g_5, h⟩ := gd_some h
    refine go_iald (d_M_goesAhead 42 rfl) rfl g_5 ?_
    rcases br_some h with ⟨c_6, h⟩ | ⟨c_6, h⟩
    · refine go_icmp_gt (tgt := 66) (d_M_goesAhead 43 rfl) (by decide) (fun _ => ?_) (fun q => absurd (of_decide_eq_true c_6) q)
      exact b_M_goesAhead_66 hl  (x1) (x2) (v) h
    · refine go_icmp_gt (tgt := 66) (d_M_goesAhead 43 rfl) (by decide) (fun q => absurd q (of_decide_eq_false c_6)) (fun _ => ?_)
      refine go_aload_n (d_M_goesAhead 46 rfl) rfl rfl ?_
      refine go_getR (d_M_goesAhead 47 rfl) fl_M_62 rfl rfl ?_
      show Go _ _ _ _ _ _ _ _ _ (.ref (ad (118)) :: []) _ _
      refine go_iload_n (d_M_goesAhead 50 rfl) rfl rfl ?_
      obtain ⟨g_7, h⟩ := gd_some h
      refine go_iald (d_M_goesAhead 51 rfl) rfl g_7 ?_
      refine go_aload_n (d_M_goesAhead 52 rfl) rfl rfl ?_
      refine go_getR (d_M_goesAhead 53 rfl) fl_M_62 rfl rfl ?_
      show Go _ _ _ _ _ _ _ _ _ (.ref (ad (118)) :: .int ((v 118 x1.toNatClampNeg)) :: []) _ _
      refine go_iload_n (d_M_goesAhead 56 rfl) rfl rfl ?_
      obtain ⟨g_8, h⟩ := gd_some h
      refine go_iald (d_M_goesAhead 57 rfl) rfl g_8 ?_
      rcases br_some h with ⟨c_9, h⟩ | ⟨c_9, h⟩
      · refine go_icmp_ne (tgt := 70) (d_M_goesAhead 58 rfl) (by decide) (fun q => absurd (of_decide_eq_true c_9) q) (fun _ => ?_)
        refine go_iload_n (d_M_goesAhead 61 rfl) rfl rfl ?_
        refine go_iload_n (d_M_goesAhead 62 rfl) rfl rfl ?_
        rcases br_some h with ⟨c_10, h⟩ | ⟨c_10, h⟩
        · refine go_icmp_le (tgt := 70) (d_M_goesAhead 63 rfl) (by decide) (fun _ => ?_) (fun q => absurd (of_decide_eq_true c_10) q)
          exact b_M_goesAhead_70 hl  (x1) (x2) (v) h
        · refine go_icmp_le (tgt := 70) (d_M_goesAhead 63 rfl) (by decide) (fun q => absurd q (of_decide_eq_false c_10)) (fun _ => ?_)
          exact b_M_goesAhead_66 hl  (x1) (x2) (v) h
      · refine go_icmp_ne (tgt := 70) (d_M_goesAhead 58 rfl) (by decide) (fun _ => ?_) (fun q => absurd q (of_decide_eq_false c_9))
        exact b_M_goesAhead_70 hl  (x1) (x2) (v) h
  · refine go_icmp_eq (tgt := 31) (d_M_goesAhead 12 rfl) (by decide) (fun q => absurd q (of_decide_eq_false c_3)) (fun _ => ?_)
    refine go_aload_n (d_M_goesAhead 15 rfl) rfl rfl ?_
    refine go_getR (d_M_goesAhead 16 rfl) fl_M_56 rfl rfl ?_
    show Go _ _ _ _ _ _ _ _ _ (.ref (ad (116)) :: []) _ _
    refine go_iload_n (d_M_goesAhead 19 rfl) rfl rfl ?_
    obtain ⟨g_11, h⟩ := gd_some h
    refine go_iald (d_M_goesAhead 20 rfl) rfl g_11 ?_
    refine go_iconst (x := (1 : Int32)) (d_M_goesAhead 21 rfl) (by decide) ?_
    rcases br_some h with ⟨c_12, h⟩ | ⟨c_12, h⟩
    · refine go_icmp_ne (tgt := 29) (d_M_goesAhead 22 rfl) (by decide) (fun q => absurd (of_decide_eq_true c_12) q) (fun _ => ?_)
      refine go_iconst (x := (1 : Int32)) (d_M_goesAhead 25 rfl) (by decide) ?_
      refine go_goto (tgt := 30) (d_M_goesAhead 26 rfl) (by decide) ?_
      exact go_iret (d_M_goesAhead 30 rfl) rfl (by decide) (Option.some.inj h) (by decide) (by decide)
    · refine go_icmp_ne (tgt := 29) (d_M_goesAhead 22 rfl) (by decide) (fun _ => ?_) (fun q => absurd q (of_decide_eq_false c_12))
      refine go_iconst (x := (0 : Int32)) (d_M_goesAhead 29 rfl) (by decide) ?_
      exact go_iret (d_M_goesAhead 30 rfl) rfl (by decide) (Option.some.inj h) (by decide) (by decide)
abbrev M_M_calm : go_M := (c_M_calm, 8, (some .int), RM, [], rmD 2 0)
def f_M_calm_172 (rec86 : Int32 → Int32 → Int32 → Int32 → Int32 → go_V → Option go_R) (rec93 : Int32 → Int32 → Int32 → Int32 → Int32 → go_V → Option go_R) (rec121 : Int32 → Int32 → Int32 → Int32 → Int32 → Int32 → Int32 → go_V → Option go_R) (x1 : Int32) (x2 : Int32) (x3 : Int32) (x4 : Int32) (x5 : Int32) (x6 : Int32) (x7 : Int32) (v : go_V) : Option go_R := rec121 (x1) (x2) (x3) (x4) (x5) (x6) ((x7 + 1)) (v)
set_option maxHeartbeats 4000000 in
set_option maxRecDepth 100000 in
theorem b_M_calm_172 {l : Launch} {G : go_G} {ad : Nat → Nat} (hl : l.stackTraces = false) {r : go_R} (rec86 : Int32 → Int32 → Int32 → Int32 → Int32 → go_V → Option go_R) (hrec86 : ∀ (x1 : Int32) (x2 : Int32) (x3 : Int32) (x4 : Int32) (x5 : Int32) (v : go_V), rec86 x1 x2 x3 x4 x5 v = some r → Go l G M_M_calm go_Ex0 (go_E G ad 1 r 0 0) ad v [(0, .ref (ad (100))), (1, .int x1), (2, .int x2), (3, .int x3), (4, .int x4), (5, .int x5)] 86 [] 0 0) (rec93 : Int32 → Int32 → Int32 → Int32 → Int32 → go_V → Option go_R) (hrec93 : ∀ (x1 : Int32) (x2 : Int32) (x3 : Int32) (x4 : Int32) (x5 : Int32) (v : go_V), rec93 x1 x2 x3 x4 x5 v = some r → Go l G M_M_calm go_Ex0 (go_E G ad 1 r 0 0) ad v [(0, .ref (ad (100))), (1, .int x1), (2, .int x2), (3, .int x3), (4, .int x4), (5, .int x5)] 93 [] 0 0) (rec121 : Int32 → Int32 → Int32 → Int32 → Int32 → Int32 → Int32 → go_V → Option go_R) (hrec121 : ∀ (x1 : Int32) (x2 : Int32) (x3 : Int32) (x4 : Int32) (x5 : Int32) (x6 : Int32) (x7 : Int32) (v : go_V), rec121 x1 x2 x3 x4 x5 x6 x7 v = some r → Go l G M_M_calm go_Ex0 (go_E G ad 1 r 0 0) ad v [(0, .ref (ad (100))), (1, .int x1), (2, .int x2), (3, .int x3), (4, .int x4), (5, .int x5), (6, .int x6), (7, .int x7)] 121 [] 0 0) (x1 : Int32) (x2 : Int32) (x3 : Int32) (x4 : Int32) (x5 : Int32) (x6 : Int32) (x7 : Int32) (v : go_V) (h : f_M_calm_172 rec86 rec93 rec121 x1 x2 x3 x4 x5 x6 x7 v = some r) : Go l G M_M_calm go_Ex0 (go_E G ad 1 r 0 0) ad v [(0, .ref (ad (100))), (1, .int x1), (2, .int x2), (3, .int x3), (4, .int x4), (5, .int x5), (6, .int x6), (7, .int x7)] 172 [] 0 0 := by
  unfold f_M_calm_172 at h
  refine go_iinc (y := (x7 + 1)) (lv' := [(0, .ref (ad (100))), (1, .int x1), (2, .int x2), (3, .int x3), (4, .int x4), (5, .int x5), (6, .int x6), (7, .int ((x7 + 1)))]) (d_M_calm 172 rfl) rfl rfl (by decide) rfl ?_
  refine go_goto (tgt := 121) (d_M_calm 175 rfl) (by decide) ?_
  exact hrec121 (x1) (x2) (x3) (x4) (x5) (x6) ((x7 + 1)) (v) h
def f_M_calm_168 (rec86 : Int32 → Int32 → Int32 → Int32 → Int32 → go_V → Option go_R) (rec93 : Int32 → Int32 → Int32 → Int32 → Int32 → go_V → Option go_R) (rec121 : Int32 → Int32 → Int32 → Int32 → Int32 → Int32 → Int32 → go_V → Option go_R) (x1 : Int32) (x2 : Int32) (x3 : Int32) (x4 : Int32) (x5 : Int32) (x6 : Int32) (x7 : Int32) (v : go_V) : Option go_R := f_M_calm_172 (rec86) (rec93) (rec121) (x1) (x2) (x3) (x4) (x5) (x7) (x7) (v)
set_option maxHeartbeats 4000000 in
set_option maxRecDepth 100000 in
theorem b_M_calm_168 {l : Launch} {G : go_G} {ad : Nat → Nat} (hl : l.stackTraces = false) {r : go_R} (rec86 : Int32 → Int32 → Int32 → Int32 → Int32 → go_V → Option go_R) (hrec86 : ∀ (x1 : Int32) (x2 : Int32) (x3 : Int32) (x4 : Int32) (x5 : Int32) (v : go_V), rec86 x1 x2 x3 x4 x5 v = some r → Go l G M_M_calm go_Ex0 (go_E G ad 1 r 0 0) ad v [(0, .ref (ad (100))), (1, .int x1), (2, .int x2), (3, .int x3), (4, .int x4), (5, .int x5)] 86 [] 0 0) (rec93 : Int32 → Int32 → Int32 → Int32 → Int32 → go_V → Option go_R) (hrec93 : ∀ (x1 : Int32) (x2 : Int32) (x3 : Int32) (x4 : Int32) (x5 : Int32) (v : go_V), rec93 x1 x2 x3 x4 x5 v = some r → Go l G M_M_calm go_Ex0 (go_E G ad 1 r 0 0) ad v [(0, .ref (ad (100))), (1, .int x1), (2, .int x2), (3, .int x3), (4, .int x4), (5, .int x5)] 93 [] 0 0) (rec121 : Int32 → Int32 → Int32 → Int32 → Int32 → Int32 → Int32 → go_V → Option go_R) (hrec121 : ∀ (x1 : Int32) (x2 : Int32) (x3 : Int32) (x4 : Int32) (x5 : Int32) (x6 : Int32) (x7 : Int32) (v : go_V), rec121 x1 x2 x3 x4 x5 x6 x7 v = some r → Go l G M_M_calm go_Ex0 (go_E G ad 1 r 0 0) ad v [(0, .ref (ad (100))), (1, .int x1), (2, .int x2), (3, .int x3), (4, .int x4), (5, .int x5), (6, .int x6), (7, .int x7)] 121 [] 0 0) (x1 : Int32) (x2 : Int32) (x3 : Int32) (x4 : Int32) (x5 : Int32) (x6 : Int32) (x7 : Int32) (v : go_V) (h : f_M_calm_168 rec86 rec93 rec121 x1 x2 x3 x4 x5 x6 x7 v = some r) : Go l G M_M_calm go_Ex0 (go_E G ad 1 r 0 0) ad v [(0, .ref (ad (100))), (1, .int x1), (2, .int x2), (3, .int x3), (4, .int x4), (5, .int x5), (6, .int x6), (7, .int x7)] 168 [] 0 0 := by
  unfold f_M_calm_168 at h
  refine go_iload (d_M_calm 168 rfl) rfl ?_
  refine go_istore (lv' := [(0, .ref (ad (100))), (1, .int x1), (2, .int x2), (3, .int x3), (4, .int x4), (5, .int x5), (6, .int x7), (7, .int x7)]) (d_M_calm 170 rfl) (by decide) rfl ?_
  exact b_M_calm_172 hl _ hrec86 _ hrec93 _ hrec121 (x1) (x2) (x3) (x4) (x5) (x7) (x7) (v) h
def f_M_calm_121 (rec86 : Int32 → Int32 → Int32 → Int32 → Int32 → go_V → Option go_R) (rec93 : Int32 → Int32 → Int32 → Int32 → Int32 → go_V → Option go_R) : Nat → Int32 → Int32 → Int32 → Int32 → Int32 → Int32 → Int32 → go_V → Option go_R
  | 0, _, _, _, _, _, _, _, _ => none
  | n + 1, x1, x2, x3, x4, x5, x6, x7, v => br (decide ((v 100 19) ≤ x7)) (bd (f_M_free x6 v) (fun r_2 => nt r_2 (rec93 (x1) (x2) (x3) ((x4 + 1)) (x5) (r_2.2.2.2)))) (bd (f_M_isWith x7 x1 v) (fun r_5 => nt r_5 (br (decide (r_5.2.1 = 0)) (f_M_calm_172 (rec86) (rec93) (f_M_calm_121 rec86 rec93 n) (x1) (x2) (x3) (x4) (x5) (x6) (x7) (r_5.2.2.2)) (gd (go_in x7 40) (br (decide ((r_5.2.2.2 115 x7.toNatClampNeg) = x5)) (br (decide (x6 < 0)) (f_M_calm_168 (rec86) (rec93) (f_M_calm_121 rec86 rec93 n) (x1) (x2) (x3) (x4) (x5) (x6) (x7) (r_5.2.2.2)) (bd (f_M_goesAhead x7 x6 r_5.2.2.2) (fun r_12 => nt r_12 (br (decide (r_12.2.1 = 0)) (f_M_calm_172 (rec86) (rec93) (f_M_calm_121 rec86 rec93 n) (x1) (x2) (x3) (x4) (x5) (x6) (x7) (r_12.2.2.2)) (f_M_calm_168 (rec86) (rec93) (f_M_calm_121 rec86 rec93 n) (x1) (x2) (x3) (x4) (x5) (x6) (x7) (r_12.2.2.2)))))) (f_M_calm_172 (rec86) (rec93) (f_M_calm_121 rec86 rec93 n) (x1) (x2) (x3) (x4) (x5) (x6) (x7) (r_5.2.2.2)))))))
set_option maxHeartbeats 4000000 in
set_option maxRecDepth 100000 in
theorem b_M_calm_121 {l : Launch} {G : go_G} {ad : Nat → Nat} (hl : l.stackTraces = false) {r : go_R} (rec86 : Int32 → Int32 → Int32 → Int32 → Int32 → go_V → Option go_R) (hrec86 : ∀ (x1 : Int32) (x2 : Int32) (x3 : Int32) (x4 : Int32) (x5 : Int32) (v : go_V), rec86 x1 x2 x3 x4 x5 v = some r → Go l G M_M_calm go_Ex0 (go_E G ad 1 r 0 0) ad v [(0, .ref (ad (100))), (1, .int x1), (2, .int x2), (3, .int x3), (4, .int x4), (5, .int x5)] 86 [] 0 0) (rec93 : Int32 → Int32 → Int32 → Int32 → Int32 → go_V → Option go_R) (hrec93 : ∀ (x1 : Int32) (x2 : Int32) (x3 : Int32) (x4 : Int32) (x5 : Int32) (v : go_V), rec93 x1 x2 x3 x4 x5 v = some r → Go l G M_M_calm go_Ex0 (go_E G ad 1 r 0 0) ad v [(0, .ref (ad (100))), (1, .int x1), (2, .int x2), (3, .int x3), (4, .int x4), (5, .int x5)] 93 [] 0 0) : ∀ (n : Nat) (x1 : Int32) (x2 : Int32) (x3 : Int32) (x4 : Int32) (x5 : Int32) (x6 : Int32) (x7 : Int32) (v : go_V), f_M_calm_121 rec86 rec93 n x1 x2 x3 x4 x5 x6 x7 v = some r → Go l G M_M_calm go_Ex0 (go_E G ad 1 r 0 0) ad v [(0, .ref (ad (100))), (1, .int x1), (2, .int x2), (3, .int x3), (4, .int x4), (5, .int x5), (6, .int x6), (7, .int x7)] 121 [] 0 0 := by
  intro n
  induction n with
  | zero =>
    intro x1 x2 x3 x4 x5 x6 x7 v h
    cases h
  | succ n ih =>
    intro x1 x2 x3 x4 x5 x6 x7 v h
    rw [f_M_calm_121] at h
    refine go_iload (d_M_calm 121 rfl) rfl ?_
    refine go_aload_n (d_M_calm 123 rfl) rfl rfl ?_
    refine go_getI (d_M_calm 124 rfl) fl_M_81 rfl rfl ?_
    rcases br_some h with ⟨c_1, h⟩ | ⟨c_1, h⟩
    · refine go_icmp_ge (tgt := 178) (d_M_calm 127 rfl) (by decide) (fun _ => ?_) (fun q => absurd (of_decide_eq_true c_1) q)
      refine go_aload_n (d_M_calm 178 rfl) rfl rfl ?_
      refine go_iload (d_M_calm 179 rfl) rfl ?_
      obtain ⟨r_2, o_3, h⟩ := bd_some h
      obtain ⟨z_4, h⟩ := nt_some h
      refine go_cV (As := [.int x6]) (rest := []) (st2 := []) (c2 := 0) (s2 := 0) rfl rfl rfl rfl (Ca_M_free hl o_3)  (d_M_calm 181 rfl) cw_M_105 ⟨w_676, w_22⟩ rfl (by decide) rfl ⟨by decide, by decide⟩ rfl (Nat.le_of_ble_eq_true rfl) ⟨by decide, by decide⟩ (fun _ => ?_) (fun q => absurd z_4 q)
      refine go_iinc (y := (x4 + 1)) (lv' := [(0, .ref (ad (100))), (1, .int x1), (2, .int x2), (3, .int x3), (4, .int ((x4 + 1))), (5, .int x5), (6, .int x6), (7, .int x7)]) (d_M_calm 184 rfl) rfl rfl (by decide) rfl ?_
      refine go_goto (tgt := 93) (d_M_calm 187 rfl) (by decide) ?_
      refine go_sub (lv' := [(0, .ref (ad (100))), (1, .int x1), (2, .int x2), (3, .int x3), (4, .int ((x4 + 1))), (5, .int x5)]) ⟨rfl, rfl, rfl, rfl, rfl, rfl, trivial⟩ ?_
      exact hrec93 (x1) (x2) (x3) ((x4 + 1)) (x5) (r_2.2.2.2) h
    · refine go_icmp_ge (tgt := 178) (d_M_calm 127 rfl) (by decide) (fun q => absurd q (of_decide_eq_false c_1)) (fun _ => ?_)
      refine go_aload_n (d_M_calm 130 rfl) rfl rfl ?_
      refine go_iload (d_M_calm 131 rfl) rfl ?_
      refine go_iload_n (d_M_calm 133 rfl) rfl rfl ?_
      obtain ⟨r_5, o_6, h⟩ := bd_some h
      obtain ⟨z_7, h⟩ := nt_some h
      refine go_cV (As := [.int x7, .int x1]) (rest := []) (st2 := [.int (r_5.2.1)]) (c2 := 0) (s2 := 0) rfl rfl rfl rfl (Ca_M_isWith hl o_6)  (d_M_calm 134 rfl) cw_M_101 ⟨w_672, w_21⟩ rfl (by decide) rfl ⟨by decide, by decide⟩ rfl (Nat.le_of_ble_eq_true rfl) ⟨by decide, by decide⟩ (fun _ => ?_) (fun q => absurd z_7 q)
      rcases br_some h with ⟨c_8, h⟩ | ⟨c_8, h⟩
      · refine go_if_eq (tgt := 172) (d_M_calm 137 rfl) (by decide) (fun _ => ?_) (fun q => absurd (of_decide_eq_true c_8) q)
        exact b_M_calm_172 hl _ hrec86 _ hrec93 _ ih (x1) (x2) (x3) (x4) (x5) (x6) (x7) (r_5.2.2.2) h
      · refine go_if_eq (tgt := 172) (d_M_calm 137 rfl) (by decide) (fun q => absurd q (of_decide_eq_false c_8)) (fun _ => ?_)
        refine go_aload_n (d_M_calm 140 rfl) rfl rfl ?_
        refine go_getR (d_M_calm 141 rfl) fl_M_53 rfl rfl ?_
        show Go _ _ _ _ _ _ _ _ _ (.ref (ad (115)) :: []) _ _
        refine go_iload (d_M_calm 144 rfl) rfl ?_
        obtain ⟨g_9, h⟩ := gd_some h
        refine go_iald (d_M_calm 146 rfl) rfl g_9 ?_
        refine go_iload (d_M_calm 147 rfl) rfl ?_
        rcases br_some h with ⟨c_10, h⟩ | ⟨c_10, h⟩
        · refine go_icmp_ne (tgt := 172) (d_M_calm 149 rfl) (by decide) (fun q => absurd (of_decide_eq_true c_10) q) (fun _ => ?_)
          refine go_iload (d_M_calm 152 rfl) rfl ?_
          rcases br_some h with ⟨c_11, h⟩ | ⟨c_11, h⟩
          · refine go_if_lt (tgt := 168) (d_M_calm 154 rfl) (by decide) (fun _ => ?_) (fun q => absurd (of_decide_eq_true c_11) q)
            exact b_M_calm_168 hl _ hrec86 _ hrec93 _ ih (x1) (x2) (x3) (x4) (x5) (x6) (x7) (r_5.2.2.2) h
          · refine go_if_lt (tgt := 168) (d_M_calm 154 rfl) (by decide) (fun q => absurd q (of_decide_eq_false c_11)) (fun _ => ?_)
            refine go_aload_n (d_M_calm 157 rfl) rfl rfl ?_
            refine go_iload (d_M_calm 158 rfl) rfl ?_
            refine go_iload (d_M_calm 160 rfl) rfl ?_
            obtain ⟨r_12, o_13, h⟩ := bd_some h
            obtain ⟨z_14, h⟩ := nt_some h
            refine go_cV (As := [.int x7, .int x6]) (rest := []) (st2 := [.int (r_12.2.1)]) (c2 := 0) (s2 := 0) rfl rfl rfl rfl (Ca_M_goesAhead hl o_13)  (d_M_calm 162 rfl) cw_M_127 ⟨w_717, w_26⟩ rfl (by decide) rfl ⟨by decide, by decide⟩ rfl (Nat.le_of_ble_eq_true rfl) ⟨by decide, by decide⟩ (fun _ => ?_) (fun q => absurd z_14 q)
            rcases br_some h with ⟨c_15, h⟩ | ⟨c_15, h⟩
            · refine go_if_eq (tgt := 172) (d_M_calm 165 rfl) (by decide) (fun _ => ?_) (fun q => absurd (of_decide_eq_true c_15) q)
              exact b_M_calm_172 hl _ hrec86 _ hrec93 _ ih (x1) (x2) (x3) (x4) (x5) (x6) (x7) (r_12.2.2.2) h
            · refine go_if_eq (tgt := 172) (d_M_calm 165 rfl) (by decide) (fun q => absurd q (of_decide_eq_false c_15)) (fun _ => ?_)
              exact b_M_calm_168 hl _ hrec86 _ hrec93 _ ih (x1) (x2) (x3) (x4) (x5) (x6) (x7) (r_12.2.2.2) h
        · refine go_icmp_ne (tgt := 172) (d_M_calm 149 rfl) (by decide) (fun _ => ?_) (fun q => absurd q (of_decide_eq_false c_10))
          exact b_M_calm_172 hl _ hrec86 _ hrec93 _ ih (x1) (x2) (x3) (x4) (x5) (x6) (x7) (r_5.2.2.2) h
def f_M_calm_93 (rec86 : Int32 → Int32 → Int32 → Int32 → Int32 → go_V → Option go_R) : Nat → Int32 → Int32 → Int32 → Int32 → Int32 → go_V → Option go_R
  | 0, _, _, _, _, _, _ => none
  | n + 1, x1, x2, x3, x4, x5, v => bd (f_M_withSkill x1 x5 v) (fun r_1 => nt r_1 (gd (go_in (((8 : Int32) * x2) + x5) 80) (br (decide (r_1.2.1 ≤ (r_1.2.2.2 101 (((8 : Int32) * x2) + x5).toNatClampNeg))) (rec86 (x1) (x2) (x3) (x4) ((x5 + 1)) (r_1.2.2.2)) (f_M_calm_121 (rec86) (f_M_calm_93 rec86 n) FU (x1) (x2) (x3) (x4) (x5) (((-1) : Int32)) ((0 : Int32)) (r_1.2.2.2)))))
set_option maxHeartbeats 4000000 in
set_option maxRecDepth 100000 in
theorem b_M_calm_93 {l : Launch} {G : go_G} {ad : Nat → Nat} (hl : l.stackTraces = false) {r : go_R} (rec86 : Int32 → Int32 → Int32 → Int32 → Int32 → go_V → Option go_R) (hrec86 : ∀ (x1 : Int32) (x2 : Int32) (x3 : Int32) (x4 : Int32) (x5 : Int32) (v : go_V), rec86 x1 x2 x3 x4 x5 v = some r → Go l G M_M_calm go_Ex0 (go_E G ad 1 r 0 0) ad v [(0, .ref (ad (100))), (1, .int x1), (2, .int x2), (3, .int x3), (4, .int x4), (5, .int x5)] 86 [] 0 0) : ∀ (n : Nat) (x1 : Int32) (x2 : Int32) (x3 : Int32) (x4 : Int32) (x5 : Int32) (v : go_V), f_M_calm_93 rec86 n x1 x2 x3 x4 x5 v = some r → Go l G M_M_calm go_Ex0 (go_E G ad 1 r 0 0) ad v [(0, .ref (ad (100))), (1, .int x1), (2, .int x2), (3, .int x3), (4, .int x4), (5, .int x5)] 93 [] 0 0 := by
  intro n
  induction n with
  | zero =>
    intro x1 x2 x3 x4 x5 v h
    cases h
  | succ n ih =>
    intro x1 x2 x3 x4 x5 v h
    rw [f_M_calm_93] at h
    refine go_aload_n (d_M_calm 93 rfl) rfl rfl ?_
    refine go_iload_n (d_M_calm 94 rfl) rfl rfl ?_
    refine go_iload (d_M_calm 95 rfl) rfl ?_
    obtain ⟨r_1, o_2, h⟩ := bd_some h
    obtain ⟨z_3, h⟩ := nt_some h
    refine go_cV (As := [.int x1, .int x5]) (rest := []) (st2 := [.int (r_1.2.1)]) (c2 := 0) (s2 := 0) rfl rfl rfl rfl (Ca_M_withSkill hl o_2)  (d_M_calm 97 rfl) cw_M_124 ⟨w_713, w_25⟩ rfl (by decide) rfl ⟨by decide, by decide⟩ rfl (Nat.le_of_ble_eq_true rfl) ⟨by decide, by decide⟩ (fun _ => ?_) (fun q => absurd z_3 q)
    refine go_aload_n (d_M_calm 100 rfl) rfl rfl ?_
    refine go_getR (d_M_calm 101 rfl) fl_M_7 rfl rfl ?_
    show Go _ _ _ _ _ _ _ _ _ (.ref (ad (101)) :: .int (r_1.2.1) :: []) _ _
    refine go_bipush (x := (8 : Int32)) (d_M_calm 104 rfl) (by decide) ?_
    refine go_iload_n (d_M_calm 106 rfl) rfl rfl ?_
    refine go_imul (d_M_calm 107 rfl) ?_
    refine go_iload (d_M_calm 108 rfl) rfl ?_
    refine go_iadd (d_M_calm 110 rfl) ?_
    obtain ⟨g_4, h⟩ := gd_some h
    refine go_iald (d_M_calm 111 rfl) rfl g_4 ?_
    rcases br_some h with ⟨c_5, h⟩ | ⟨c_5, h⟩
    · refine go_icmp_le (tgt := 190) (d_M_calm 112 rfl) (by decide) (fun _ => ?_) (fun q => absurd (of_decide_eq_true c_5) q)
      refine go_iinc (y := (x5 + 1)) (lv' := [(0, .ref (ad (100))), (1, .int x1), (2, .int x2), (3, .int x3), (4, .int x4), (5, .int ((x5 + 1)))]) (d_M_calm 190 rfl) rfl rfl (by decide) rfl ?_
      refine go_goto (tgt := 86) (d_M_calm 193 rfl) (by decide) ?_
      exact hrec86 (x1) (x2) (x3) (x4) ((x5 + 1)) (r_1.2.2.2) h
    · refine go_icmp_le (tgt := 190) (d_M_calm 112 rfl) (by decide) (fun q => absurd q (of_decide_eq_false c_5)) (fun _ => ?_)
      refine go_iconst (x := ((-1) : Int32)) (d_M_calm 115 rfl) (by decide) ?_
      refine go_istore (lv' := [(0, .ref (ad (100))), (1, .int x1), (2, .int x2), (3, .int x3), (4, .int x4), (5, .int x5), (6, .int (((-1) : Int32)))]) (d_M_calm 116 rfl) (by decide) rfl ?_
      refine go_iconst (x := (0 : Int32)) (d_M_calm 118 rfl) (by decide) ?_
      refine go_istore (lv' := [(0, .ref (ad (100))), (1, .int x1), (2, .int x2), (3, .int x3), (4, .int x4), (5, .int x5), (6, .int (((-1) : Int32))), (7, .int ((0 : Int32)))]) (d_M_calm 119 rfl) (by decide) rfl ?_
      exact b_M_calm_121 hl _ hrec86 _ ih FU (x1) (x2) (x3) (x4) (x5) (((-1) : Int32)) ((0 : Int32)) (r_1.2.2.2) h
def f_M_calm_86  : Nat → Int32 → Int32 → Int32 → Int32 → Int32 → go_V → Option go_R
  | 0, _, _, _, _, _, _ => none
  | n + 1, x1, x2, x3, x4, x5, v => br (decide ((8 : Int32) ≤ x5)) (ln (u2 v 100 25 ((v 100 25) + x4)) (fun v_2 => some (0, x4, 0, v_2))) (f_M_calm_93 (f_M_calm_86 n) FU (x1) (x2) (x3) (x4) (x5) (v))
set_option maxHeartbeats 4000000 in
set_option maxRecDepth 100000 in
theorem b_M_calm_86 {l : Launch} {G : go_G} {ad : Nat → Nat} (hl : l.stackTraces = false) {r : go_R}  : ∀ (n : Nat) (x1 : Int32) (x2 : Int32) (x3 : Int32) (x4 : Int32) (x5 : Int32) (v : go_V), f_M_calm_86  n x1 x2 x3 x4 x5 v = some r → Go l G M_M_calm go_Ex0 (go_E G ad 1 r 0 0) ad v [(0, .ref (ad (100))), (1, .int x1), (2, .int x2), (3, .int x3), (4, .int x4), (5, .int x5)] 86 [] 0 0 := by
  intro n
  induction n with
  | zero =>
    intro x1 x2 x3 x4 x5 v h
    cases h
  | succ n ih =>
    intro x1 x2 x3 x4 x5 v h
    rw [f_M_calm_86] at h
    refine go_iload (d_M_calm 86 rfl) rfl ?_
    refine go_bipush (x := (8 : Int32)) (d_M_calm 88 rfl) (by decide) ?_
    rcases br_some h with ⟨c_1, h⟩ | ⟨c_1, h⟩
    · refine go_icmp_ge (tgt := 196) (d_M_calm 90 rfl) (by decide) (fun _ => ?_) (fun q => absurd (of_decide_eq_true c_1) q)
      refine go_aload_n (d_M_calm 196 rfl) rfl rfl ?_
      refine go_dup (d_M_calm 197 rfl) rfl ?_
      refine go_getI (d_M_calm 198 rfl) fl_M_130 rfl rfl ?_
      refine go_iload (d_M_calm 201 rfl) rfl ?_
      refine go_iadd (d_M_calm 203 rfl) ?_
      obtain ⟨v_2, ev_2, h⟩ := ln_some h
      refine go_putI (x := ((v 100 25) + x4)) (d_M_calm 204 rfl) fp_M_130 rfl rfl rfl rfl ?_
      rw [← ev_2]
      refine go_iload (d_M_calm 207 rfl) rfl ?_
      exact go_iret (d_M_calm 209 rfl) rfl rfl (Option.some.inj h) (by decide) (by decide)
    · refine go_icmp_ge (tgt := 196) (d_M_calm 90 rfl) (by decide) (fun q => absurd q (of_decide_eq_false c_1)) (fun _ => ?_)
      exact b_M_calm_93 hl _ ih FU (x1) (x2) (x3) (x4) (x5) (v) h
def f_M_calm_54  (x1 : Int32) (x2 : Int32) (x3 : Int32) (y1 : Int32) (y2 : Int32) (v : go_V) : Option go_R := bd (f_M_throwing y1 y2 (0 : Int32) v) (fun r_1 => nt r_1 (br (decide (r_1.2.1 = 0)) (gd (go_in x1 12) (ln (u2 r_1.2.2.2 108 x1.toNatClampNeg x2) (fun v_6 => gd (go_in x1 12) (gd (go_in x1 12) (ln (u2 v_6 113 x1.toNatClampNeg ((v_6 113 x1.toNatClampNeg) + (1 : Int32))) (fun v_9 => f_M_calm_86  FU (x1) (x2) (x3) ((0 : Int32)) ((0 : Int32)) (v_9))))))) (some (0, (0 : Int32), 0, r_1.2.2.2))))
set_option maxHeartbeats 4000000 in
set_option maxRecDepth 100000 in
theorem b_M_calm_54 {l : Launch} {G : go_G} {ad : Nat → Nat} (hl : l.stackTraces = false) {r : go_R}  (x1 : Int32) (x2 : Int32) (x3 : Int32) (y1 : Int32) (y2 : Int32) (v : go_V) (h : f_M_calm_54  x1 x2 x3 y1 y2 v = some r) : Go l G M_M_calm go_Ex0 (go_E G ad 1 r 0 0) ad v [(0, .ref (ad (100))), (1, .int x1), (2, .int x2), (3, .int x3)] 54 [.int y2, .int y1, .ref (ad (100))] 0 0 := by
  unfold f_M_calm_54 at h
  refine go_iconst (x := (0 : Int32)) (d_M_calm 54 rfl) (by decide) ?_
  obtain ⟨r_1, o_2, h⟩ := bd_some h
  obtain ⟨z_3, h⟩ := nt_some h
  refine go_cV (As := [.int y1, .int y2, .int ((0 : Int32))]) (rest := []) (st2 := [.int (r_1.2.1)]) (c2 := 0) (s2 := 0) rfl rfl rfl rfl (Ca_M_throwing hl o_2)  (d_M_calm 55 rfl) cw_M_84 ⟨w_643, w_18⟩ rfl (by decide) rfl ⟨by decide, by decide⟩ rfl (Nat.le_of_ble_eq_true rfl) ⟨by decide, by decide⟩ (fun _ => ?_) (fun q => absurd z_3 q)
  rcases br_some h with ⟨c_4, h⟩ | ⟨c_4, h⟩
  · refine go_if_eq (tgt := 63) (d_M_calm 58 rfl) (by decide) (fun _ => ?_) (fun q => absurd (of_decide_eq_true c_4) q)
    refine go_aload_n (d_M_calm 63 rfl) rfl rfl ?_
    refine go_getR (d_M_calm 64 rfl) fl_M_32 rfl rfl ?_
    show Go _ _ _ _ _ _ _ _ _ (.ref (ad (108)) :: []) _ _
    refine go_iload_n (d_M_calm 67 rfl) rfl rfl ?_
    refine go_iload_n (d_M_calm 68 rfl) rfl rfl ?_
    obtain ⟨g_5, h⟩ := gd_some h
    obtain ⟨v_6, ev_6, h⟩ := ln_some h
    refine go_iast (y := x2) (d_M_calm 69 rfl) rfl g_5 ?_
    rw [← ev_6]
    refine go_aload_n (d_M_calm 70 rfl) rfl rfl ?_
    refine go_getR (d_M_calm 71 rfl) fl_M_47 rfl rfl ?_
    show Go _ _ _ _ _ _ _ _ _ (.ref (ad (113)) :: []) _ _
    refine go_iload_n (d_M_calm 74 rfl) rfl rfl ?_
    refine go_dup2 (d_M_calm 75 rfl) rfl rfl ?_
    obtain ⟨g_7, h⟩ := gd_some h
    refine go_iald (d_M_calm 76 rfl) rfl g_7 ?_
    refine go_iconst (x := (1 : Int32)) (d_M_calm 77 rfl) (by decide) ?_
    refine go_iadd (d_M_calm 78 rfl) ?_
    obtain ⟨g_8, h⟩ := gd_some h
    obtain ⟨v_9, ev_9, h⟩ := ln_some h
    refine go_iast (y := ((v_6 113 x1.toNatClampNeg) + (1 : Int32))) (d_M_calm 79 rfl) rfl g_8 ?_
    rw [← ev_9]
    refine go_iconst (x := (0 : Int32)) (d_M_calm 80 rfl) (by decide) ?_
    refine go_istore (lv' := [(0, .ref (ad (100))), (1, .int x1), (2, .int x2), (3, .int x3), (4, .int ((0 : Int32)))]) (d_M_calm 81 rfl) (by decide) rfl ?_
    refine go_iconst (x := (0 : Int32)) (d_M_calm 83 rfl) (by decide) ?_
    refine go_istore (lv' := [(0, .ref (ad (100))), (1, .int x1), (2, .int x2), (3, .int x3), (4, .int ((0 : Int32))), (5, .int ((0 : Int32)))]) (d_M_calm 84 rfl) (by decide) rfl ?_
    exact b_M_calm_86 hl  FU (x1) (x2) (x3) ((0 : Int32)) ((0 : Int32)) (v_9) h
  · refine go_if_eq (tgt := 63) (d_M_calm 58 rfl) (by decide) (fun q => absurd q (of_decide_eq_false c_4)) (fun _ => ?_)
    refine go_iconst (x := (0 : Int32)) (d_M_calm 61 rfl) (by decide) ?_
    exact go_iret (d_M_calm 62 rfl) rfl rfl (Option.some.inj h) (by decide) (by decide)
def f_M_calm_53  (x1 : Int32) (x2 : Int32) (x3 : Int32) (y1 : Int32) (v : go_V) : Option go_R := f_M_calm_54  (x1) (x2) (x3) (y1) ((0 : Int32)) (v)
set_option maxHeartbeats 4000000 in
set_option maxRecDepth 100000 in
theorem b_M_calm_53 {l : Launch} {G : go_G} {ad : Nat → Nat} (hl : l.stackTraces = false) {r : go_R}  (x1 : Int32) (x2 : Int32) (x3 : Int32) (y1 : Int32) (v : go_V) (h : f_M_calm_53  x1 x2 x3 y1 v = some r) : Go l G M_M_calm go_Ex0 (go_E G ad 1 r 0 0) ad v [(0, .ref (ad (100))), (1, .int x1), (2, .int x2), (3, .int x3)] 53 [.int y1, .ref (ad (100))] 0 0 := by
  unfold f_M_calm_53 at h
  refine go_iconst (x := (0 : Int32)) (d_M_calm 53 rfl) (by decide) ?_
  exact b_M_calm_54 hl  (x1) (x2) (x3) (y1) ((0 : Int32)) (v) h
def f_M_calm_49  (x1 : Int32) (x2 : Int32) (x3 : Int32) (y1 : Int32) (v : go_V) : Option go_R := f_M_calm_54  (x1) (x2) (x3) (y1) ((1 : Int32)) (v)
set_option maxHeartbeats 4000000 in
set_option maxRecDepth 100000 in
theorem b_M_calm_49 {l : Launch} {G : go_G} {ad : Nat → Nat} (hl : l.stackTraces = false) {r : go_R}  (x1 : Int32) (x2 : Int32) (x3 : Int32) (y1 : Int32) (v : go_V) (h : f_M_calm_49  x1 x2 x3 y1 v = some r) : Go l G M_M_calm go_Ex0 (go_E G ad 1 r 0 0) ad v [(0, .ref (ad (100))), (1, .int x1), (2, .int x2), (3, .int x3)] 49 [.int y1, .ref (ad (100))] 0 0 := by
  unfold f_M_calm_49 at h
  refine go_iconst (x := (1 : Int32)) (d_M_calm 49 rfl) (by decide) ?_
  refine go_goto (tgt := 54) (d_M_calm 50 rfl) (by decide) ?_
  exact b_M_calm_54 hl  (x1) (x2) (x3) (y1) ((1 : Int32)) (v) h
def f_M_calm_23  (x1 : Int32) (x2 : Int32) (y0 : Int32) (v : go_V) : Option go_R := br (decide (y0 = 0)) (gd (go_in x1 12) (br (decide ((v 107 x1.toNatClampNeg) = 0)) (f_M_calm_49  (x1) (x2) (y0) (y0) (v)) (gd (go_in x1 12) (br (decide (x2 < (v 108 x1.toNatClampNeg))) (f_M_calm_53  (x1) (x2) (y0) (y0) (v)) (f_M_calm_49  (x1) (x2) (y0) (y0) (v)))))) (f_M_calm_53  (x1) (x2) (y0) (y0) (v))
set_option maxHeartbeats 4000000 in
set_option maxRecDepth 100000 in
theorem b_M_calm_23 {l : Launch} {G : go_G} {ad : Nat → Nat} (hl : l.stackTraces = false) {r : go_R}  (x1 : Int32) (x2 : Int32) (y0 : Int32) (v : go_V) (h : f_M_calm_23  x1 x2 y0 v = some r) : Go l G M_M_calm go_Ex0 (go_E G ad 1 r 0 0) ad v [(0, .ref (ad (100))), (1, .int x1), (2, .int x2)] 23 [.int y0] 0 0 := by
  unfold f_M_calm_23 at h
  refine go_istore_n (lv' := [(0, .ref (ad (100))), (1, .int x1), (2, .int x2), (3, .int y0)]) (d_M_calm 23 rfl) rfl (by decide) rfl ?_
  refine go_aload_n (d_M_calm 24 rfl) rfl rfl ?_
  refine go_iload_n (d_M_calm 25 rfl) rfl rfl ?_
  refine go_iload_n (d_M_calm 26 rfl) rfl rfl ?_
  rcases br_some h with ⟨c_1, h⟩ | ⟨c_1, h⟩
  · refine go_if_ne (tgt := 53) (d_M_calm 27 rfl) (by decide) (fun q => absurd (of_decide_eq_true c_1) q) (fun _ => ?_)
    refine go_aload_n (d_M_calm 30 rfl) rfl rfl ?_
    refine go_getR (d_M_calm 31 rfl) fl_M_28 rfl rfl ?_
    show Go _ _ _ _ _ _ _ _ _ (.ref (ad (107)) :: .int y0 :: .ref (ad (100)) :: []) _ _
    refine go_iload_n (d_M_calm 34 rfl) rfl rfl ?_
    obtain ⟨g_2, h⟩ := gd_some h
    refine go_zald (d_M_calm 35 rfl) rfl g_2 ?_
    rcases br_some h with ⟨c_3, h⟩ | ⟨c_3, h⟩
    · refine go_if_eq (tgt := 49) (d_M_calm 36 rfl) (by decide) (fun _ => ?_) (fun q => absurd (of_decide_eq_true c_3) q)
      exact b_M_calm_49 hl  (x1) (x2) (y0) (y0) (v) h
    · refine go_if_eq (tgt := 49) (d_M_calm 36 rfl) (by decide) (fun q => absurd q (of_decide_eq_false c_3)) (fun _ => ?_)
      refine go_aload_n (d_M_calm 39 rfl) rfl rfl ?_
      refine go_getR (d_M_calm 40 rfl) fl_M_32 rfl rfl ?_
      show Go _ _ _ _ _ _ _ _ _ (.ref (ad (108)) :: .int y0 :: .ref (ad (100)) :: []) _ _
      refine go_iload_n (d_M_calm 43 rfl) rfl rfl ?_
      obtain ⟨g_4, h⟩ := gd_some h
      refine go_iald (d_M_calm 44 rfl) rfl g_4 ?_
      refine go_iload_n (d_M_calm 45 rfl) rfl rfl ?_
      rcases br_some h with ⟨c_5, h⟩ | ⟨c_5, h⟩
      · refine go_icmp_gt (tgt := 53) (d_M_calm 46 rfl) (by decide) (fun _ => ?_) (fun q => absurd (of_decide_eq_true c_5) q)
        exact b_M_calm_53 hl  (x1) (x2) (y0) (y0) (v) h
      · refine go_icmp_gt (tgt := 53) (d_M_calm 46 rfl) (by decide) (fun q => absurd q (of_decide_eq_false c_5)) (fun _ => ?_)
        exact b_M_calm_49 hl  (x1) (x2) (y0) (y0) (v) h
  · refine go_if_ne (tgt := 53) (d_M_calm 27 rfl) (by decide) (fun _ => ?_) (fun q => absurd q (of_decide_eq_false c_1))
    exact b_M_calm_53 hl  (x1) (x2) (y0) (y0) (v) h
def f_M_calm_18  (x1 : Int32) (x2 : Int32) (v : go_V) : Option go_R := f_M_calm_23  (x1) (x2) ((1 : Int32)) (v)
set_option maxHeartbeats 4000000 in
set_option maxRecDepth 100000 in
theorem b_M_calm_18 {l : Launch} {G : go_G} {ad : Nat → Nat} (hl : l.stackTraces = false) {r : go_R}  (x1 : Int32) (x2 : Int32) (v : go_V) (h : f_M_calm_18  x1 x2 v = some r) : Go l G M_M_calm go_Ex0 (go_E G ad 1 r 0 0) ad v [(0, .ref (ad (100))), (1, .int x1), (2, .int x2)] 18 [] 0 0 := by
  unfold f_M_calm_18 at h
  refine go_iconst (x := (1 : Int32)) (d_M_calm 18 rfl) (by decide) ?_
  refine go_goto (tgt := 23) (d_M_calm 19 rfl) (by decide) ?_
  exact b_M_calm_23 hl  (x1) (x2) ((1 : Int32)) (v) h
def f_M_calm (x1 : Int32) (x2 : Int32) (v : go_V) : Option go_R := bd (f_M_isIncident x1 v) (fun r_1 => nt r_1 (br (decide (r_1.2.1 = 0)) (f_M_calm_18  (x1) (x2) (r_1.2.2.2)) (bd (f_M_in x2 (0 : Int32) (9 : Int32) r_1.2.2.2) (fun r_5 => nt r_5 (br (decide (r_5.2.1 = 0)) (f_M_calm_18  (x1) (x2) (r_5.2.2.2)) (f_M_calm_23  (x1) (x2) ((0 : Int32)) (r_5.2.2.2)))))))
set_option maxHeartbeats 4000000 in
set_option maxRecDepth 100000 in
theorem Ca_M_calm {l : Launch} {G : go_G} {ad : Nat → Nat} (hl : l.stackTraces = false) {r : go_R} {x1 : Int32} {x2 : Int32} {v : go_V} (h : f_M_calm x1 x2 v = some r) : Ca l G y_M_calm (.code y_M_calm c_M_calm 8 (some .int) :: go_TT) (rmD 2 0) 1 ad [.ref (ad (100)), .int x1, .int x2] v r := by
  unfold f_M_calm at h
  refine go_body (own := RM) (by decide) rfl (Nat.le_of_ble_eq_true rfl) ?_
  show Go l G M_M_calm go_Ex0 (go_E G ad 1 r 0 0) ad v [(0, .ref (ad (100))), (1, .int x1), (2, .int x2)] 0 [] 0 0
  refine go_aload_n (d_M_calm 0 rfl) rfl rfl ?_
  refine go_iload_n (d_M_calm 1 rfl) rfl rfl ?_
  obtain ⟨r_1, o_2, h⟩ := bd_some h
  obtain ⟨z_3, h⟩ := nt_some h
  refine go_cV (As := [.int x1]) (rest := []) (st2 := [.int (r_1.2.1)]) (c2 := 0) (s2 := 0) rfl rfl rfl rfl (Ca_M_isIncident hl o_2)  (d_M_calm 2 rfl) cw_M_77 ⟨w_664, w_19⟩ rfl (by decide) rfl ⟨by decide, by decide⟩ rfl (Nat.le_of_ble_eq_true rfl) ⟨by decide, by decide⟩ (fun _ => ?_) (fun q => absurd z_3 q)
  rcases br_some h with ⟨c_4, h⟩ | ⟨c_4, h⟩
  · refine go_if_eq (tgt := 18) (d_M_calm 5 rfl) (by decide) (fun _ => ?_) (fun q => absurd (of_decide_eq_true c_4) q)
    exact b_M_calm_18 hl  (x1) (x2) (r_1.2.2.2) h
  · refine go_if_eq (tgt := 18) (d_M_calm 5 rfl) (by decide) (fun q => absurd q (of_decide_eq_false c_4)) (fun _ => ?_)
    refine go_iload_n (d_M_calm 8 rfl) rfl rfl ?_
    refine go_iconst (x := (0 : Int32)) (d_M_calm 9 rfl) (by decide) ?_
    refine go_bipush (x := (9 : Int32)) (d_M_calm 10 rfl) (by decide) ?_
    obtain ⟨r_5, o_6, h⟩ := bd_some h
    obtain ⟨z_7, h⟩ := nt_some h
    refine go_cS (As := [.int x2, .int ((0 : Int32)), .int ((9 : Int32))]) (rest := []) (st2 := [.int (r_5.2.1)]) (c2 := 0) (s2 := 0) rfl rfl rfl rfl (Ca_M_in hl o_6)  (d_M_calm 12 rfl) cw_M_73 w_639 ⟨by decide, by decide⟩ rfl (Nat.le_of_ble_eq_true rfl) ⟨by decide, by decide⟩ (fun _ => ?_) (fun q => absurd z_7 q)
    rcases br_some h with ⟨c_8, h⟩ | ⟨c_8, h⟩
    · refine go_if_ne (tgt := 22) (d_M_calm 15 rfl) (by decide) (fun q => absurd (of_decide_eq_true c_8) q) (fun _ => ?_)
      exact b_M_calm_18 hl  (x1) (x2) (r_5.2.2.2) h
    · refine go_if_ne (tgt := 22) (d_M_calm 15 rfl) (by decide) (fun _ => ?_) (fun q => absurd q (of_decide_eq_false c_8))
      refine go_iconst (x := (0 : Int32)) (d_M_calm 22 rfl) (by decide) ?_
      exact b_M_calm_23 hl  (x1) (x2) ((0 : Int32)) (r_5.2.2.2) h
abbrev M_M_unit : go_M := (c_M_unit, 2, (some .int), RM, [], rmD 1 0)
def f_M_unit_30  (x1 : Int32) (y1 : Int32) (y2 : Int32) (v : go_V) : Option go_R := bd (f_M_throwing y1 y2 (0 : Int32) v) (fun r_1 => nt r_1 (br (decide (r_1.2.1 = 0)) (gd (go_in (r_1.2.2.2 100 19) 40) (ln (u2 r_1.2.2.2 115 (r_1.2.2.2 100 19).toNatClampNeg x1) (fun v_6 => bd (f_M_free (v_6 100 19) v_6) (fun r_7 => nt r_7 (ln (u2 r_7.2.2.2 100 19 ((r_7.2.2.2 100 19) + (1 : Int32))) (fun v_10 => some (0, ((v_10 100 19) - (1 : Int32)), 0, v_10))))))) (some (0, (0 : Int32), 0, r_1.2.2.2))))
set_option maxHeartbeats 4000000 in
set_option maxRecDepth 100000 in
theorem b_M_unit_30 {l : Launch} {G : go_G} {ad : Nat → Nat} (hl : l.stackTraces = false) {r : go_R}  (x1 : Int32) (y1 : Int32) (y2 : Int32) (v : go_V) (h : f_M_unit_30  x1 y1 y2 v = some r) : Go l G M_M_unit go_Ex0 (go_E G ad 1 r 0 0) ad v [(0, .ref (ad (100))), (1, .int x1)] 30 [.int y2, .int y1, .ref (ad (100))] 0 0 := by
  unfold f_M_unit_30 at h
  refine go_iconst (x := (0 : Int32)) (d_M_unit 30 rfl) (by decide) ?_
  obtain ⟨r_1, o_2, h⟩ := bd_some h
  obtain ⟨z_3, h⟩ := nt_some h
  refine go_cV (As := [.int y1, .int y2, .int ((0 : Int32))]) (rest := []) (st2 := [.int (r_1.2.1)]) (c2 := 0) (s2 := 0) rfl rfl rfl rfl (Ca_M_throwing hl o_2)  (d_M_unit 31 rfl) cw_M_84 ⟨w_643, w_18⟩ rfl (by decide) rfl ⟨by decide, by decide⟩ rfl (Nat.le_of_ble_eq_true rfl) ⟨by decide, by decide⟩ (fun _ => ?_) (fun q => absurd z_3 q)
  rcases br_some h with ⟨c_4, h⟩ | ⟨c_4, h⟩
  · refine go_if_eq (tgt := 39) (d_M_unit 34 rfl) (by decide) (fun _ => ?_) (fun q => absurd (of_decide_eq_true c_4) q)
    refine go_aload_n (d_M_unit 39 rfl) rfl rfl ?_
    refine go_getR (d_M_unit 40 rfl) fl_M_53 rfl rfl ?_
    show Go _ _ _ _ _ _ _ _ _ (.ref (ad (115)) :: []) _ _
    refine go_aload_n (d_M_unit 43 rfl) rfl rfl ?_
    refine go_getI (d_M_unit 44 rfl) fl_M_81 rfl rfl ?_
    refine go_iload_n (d_M_unit 47 rfl) rfl rfl ?_
    obtain ⟨g_5, h⟩ := gd_some h
    obtain ⟨v_6, ev_6, h⟩ := ln_some h
    refine go_iast (y := x1) (d_M_unit 48 rfl) rfl g_5 ?_
    rw [← ev_6]
    refine go_aload_n (d_M_unit 49 rfl) rfl rfl ?_
    refine go_aload_n (d_M_unit 50 rfl) rfl rfl ?_
    refine go_getI (d_M_unit 51 rfl) fl_M_81 rfl rfl ?_
    obtain ⟨r_7, o_8, h⟩ := bd_some h
    obtain ⟨z_9, h⟩ := nt_some h
    refine go_cV (As := [.int ((v_6 100 19))]) (rest := []) (st2 := []) (c2 := 0) (s2 := 0) rfl rfl rfl rfl (Ca_M_free hl o_8)  (d_M_unit 54 rfl) cw_M_105 ⟨w_676, w_22⟩ rfl (by decide) rfl ⟨by decide, by decide⟩ rfl (Nat.le_of_ble_eq_true rfl) ⟨by decide, by decide⟩ (fun _ => ?_) (fun q => absurd z_9 q)
    refine go_aload_n (d_M_unit 57 rfl) rfl rfl ?_
    refine go_dup (d_M_unit 58 rfl) rfl ?_
    refine go_getI (d_M_unit 59 rfl) fl_M_81 rfl rfl ?_
    refine go_iconst (x := (1 : Int32)) (d_M_unit 62 rfl) (by decide) ?_
    refine go_iadd (d_M_unit 63 rfl) ?_
    obtain ⟨v_10, ev_10, h⟩ := ln_some h
    refine go_putI (x := ((r_7.2.2.2 100 19) + (1 : Int32))) (d_M_unit 64 rfl) fp_M_81 rfl rfl rfl rfl ?_
    rw [← ev_10]
    refine go_aload_n (d_M_unit 67 rfl) rfl rfl ?_
    refine go_getI (d_M_unit 68 rfl) fl_M_81 rfl rfl ?_
    refine go_iconst (x := (1 : Int32)) (d_M_unit 71 rfl) (by decide) ?_
    refine go_isub (d_M_unit 72 rfl) ?_
    exact go_iret (d_M_unit 73 rfl) rfl rfl (Option.some.inj h) (by decide) (by decide)
  · refine go_if_eq (tgt := 39) (d_M_unit 34 rfl) (by decide) (fun q => absurd q (of_decide_eq_false c_4)) (fun _ => ?_)
    refine go_iconst (x := (0 : Int32)) (d_M_unit 37 rfl) (by decide) ?_
    exact go_iret (d_M_unit 38 rfl) rfl rfl (Option.some.inj h) (by decide) (by decide)
def f_M_unit_16  (x1 : Int32) (y1 : Int32) (v : go_V) : Option go_R := br (decide ((v 100 19) = (40 : Int32))) (f_M_unit_30  (x1) (y1) ((1 : Int32)) (v)) (f_M_unit_30  (x1) (y1) ((0 : Int32)) (v))
set_option maxHeartbeats 4000000 in
set_option maxRecDepth 100000 in
theorem b_M_unit_16 {l : Launch} {G : go_G} {ad : Nat → Nat} (hl : l.stackTraces = false) {r : go_R}  (x1 : Int32) (y1 : Int32) (v : go_V) (h : f_M_unit_16  x1 y1 v = some r) : Go l G M_M_unit go_Ex0 (go_E G ad 1 r 0 0) ad v [(0, .ref (ad (100))), (1, .int x1)] 16 [.int y1, .ref (ad (100))] 0 0 := by
  unfold f_M_unit_16 at h
  refine go_aload_n (d_M_unit 16 rfl) rfl rfl ?_
  refine go_getI (d_M_unit 17 rfl) fl_M_81 rfl rfl ?_
  refine go_bipush (x := (40 : Int32)) (d_M_unit 20 rfl) (by decide) ?_
  rcases br_some h with ⟨c_1, h⟩ | ⟨c_1, h⟩
  · refine go_icmp_ne (tgt := 29) (d_M_unit 22 rfl) (by decide) (fun q => absurd (of_decide_eq_true c_1) q) (fun _ => ?_)
    refine go_iconst (x := (1 : Int32)) (d_M_unit 25 rfl) (by decide) ?_
    refine go_goto (tgt := 30) (d_M_unit 26 rfl) (by decide) ?_
    exact b_M_unit_30 hl  (x1) (y1) ((1 : Int32)) (v) h
  · refine go_icmp_ne (tgt := 29) (d_M_unit 22 rfl) (by decide) (fun _ => ?_) (fun q => absurd q (of_decide_eq_false c_1))
    refine go_iconst (x := (0 : Int32)) (d_M_unit 29 rfl) (by decide) ?_
    exact b_M_unit_30 hl  (x1) (y1) ((0 : Int32)) (v) h
def f_M_unit (x1 : Int32) (v : go_V) : Option go_R := bd (f_M_in x1 (0 : Int32) (7 : Int32) v) (fun r_1 => nt r_1 (br (decide (r_1.2.1 = 0)) (f_M_unit_16  (x1) ((1 : Int32)) (r_1.2.2.2)) (f_M_unit_16  (x1) ((0 : Int32)) (r_1.2.2.2))))
set_option maxHeartbeats 4000000 in
set_option maxRecDepth 100000 in
theorem Ca_M_unit {l : Launch} {G : go_G} {ad : Nat → Nat} (hl : l.stackTraces = false) {r : go_R} {x1 : Int32} {v : go_V} (h : f_M_unit x1 v = some r) : Ca l G y_M_unit (.code y_M_unit c_M_unit 2 (some .int) :: go_TT) (rmD 1 0) 1 ad [.ref (ad (100)), .int x1] v r := by
  unfold f_M_unit at h
  refine go_body (own := RM) (by decide) rfl (Nat.le_of_ble_eq_true rfl) ?_
  show Go l G M_M_unit go_Ex0 (go_E G ad 1 r 0 0) ad v [(0, .ref (ad (100))), (1, .int x1)] 0 [] 0 0
  refine go_aload_n (d_M_unit 0 rfl) rfl rfl ?_
  refine go_iload_n (d_M_unit 1 rfl) rfl rfl ?_
  refine go_iconst (x := (0 : Int32)) (d_M_unit 2 rfl) (by decide) ?_
  refine go_bipush (x := (7 : Int32)) (d_M_unit 3 rfl) (by decide) ?_
  obtain ⟨r_1, o_2, h⟩ := bd_some h
  obtain ⟨z_3, h⟩ := nt_some h
  refine go_cS (As := [.int x1, .int ((0 : Int32)), .int ((7 : Int32))]) (rest := [.ref (ad (100))]) (st2 := [.int (r_1.2.1), .ref (ad (100))]) (c2 := 0) (s2 := 0) rfl rfl rfl rfl (Ca_M_in hl o_2)  (d_M_unit 5 rfl) cw_M_73 w_639 ⟨by decide, by decide⟩ rfl (Nat.le_of_ble_eq_true rfl) ⟨by decide, by decide⟩ (fun _ => ?_) (fun q => absurd z_3 q)
  rcases br_some h with ⟨c_4, h⟩ | ⟨c_4, h⟩
  · refine go_if_ne (tgt := 15) (d_M_unit 8 rfl) (by decide) (fun q => absurd (of_decide_eq_true c_4) q) (fun _ => ?_)
    refine go_iconst (x := (1 : Int32)) (d_M_unit 11 rfl) (by decide) ?_
    refine go_goto (tgt := 16) (d_M_unit 12 rfl) (by decide) ?_
    exact b_M_unit_16 hl  (x1) ((1 : Int32)) (r_1.2.2.2) h
  · refine go_if_ne (tgt := 15) (d_M_unit 8 rfl) (by decide) (fun _ => ?_) (fun q => absurd q (of_decide_eq_false c_4))
    refine go_iconst (x := (0 : Int32)) (d_M_unit 15 rfl) (by decide) ?_
    exact b_M_unit_16 hl  (x1) ((0 : Int32)) (r_1.2.2.2) h
abbrev M_M_go : go_M := (c_M_go, 5, none, RM, [], rmD 2 0)
def f_M_go_69  (x1 : Int32) (x2 : Int32) (x3 : Int32) (x4 : Int32) (y1 : Int32) (y2 : Int32) (y3 : Int32) (v : go_V) : Option go_R := bd (f_M_throwing y1 y2 y3 v) (fun r_1 => nt r_1 (br (decide (r_1.2.1 = 0)) (gd (go_in x1 40) (ln (u2 r_1.2.2.2 116 x1.toNatClampNeg (1 : Int32)) (fun v_6 => gd (go_in x1 40) (ln (u2 v_6 117 x1.toNatClampNeg x2) (fun v_8 => gd (go_in x1 40) (ln (u2 v_8 118 x1.toNatClampNeg x3) (fun v_10 => some (0, 0, 0, v_10)))))))) (some (0, 0, 0, r_1.2.2.2))))
set_option maxHeartbeats 4000000 in
set_option maxRecDepth 100000 in
theorem b_M_go_69 {l : Launch} {G : go_G} {ad : Nat → Nat} (hl : l.stackTraces = false) {r : go_R}  (x1 : Int32) (x2 : Int32) (x3 : Int32) (x4 : Int32) (y1 : Int32) (y2 : Int32) (y3 : Int32) (v : go_V) (h : f_M_go_69  x1 x2 x3 x4 y1 y2 y3 v = some r) : Go l G M_M_go go_Ex0 (go_E G ad 0 r 0 0) ad v [(0, .ref (ad (100))), (1, .int x1), (2, .int x2), (3, .int x3), (4, .int x4)] 69 [.int y3, .int y2, .int y1, .ref (ad (100))] 0 0 := by
  unfold f_M_go_69 at h
  obtain ⟨r_1, o_2, h⟩ := bd_some h
  obtain ⟨z_3, h⟩ := nt_some h
  refine go_cV (As := [.int y1, .int y2, .int y3]) (rest := []) (st2 := [.int (r_1.2.1)]) (c2 := 0) (s2 := 0) rfl rfl rfl rfl (Ca_M_throwing hl o_2)  (d_M_go 69 rfl) cw_M_84 ⟨w_643, w_18⟩ rfl (by decide) rfl ⟨by decide, by decide⟩ rfl (Nat.le_of_ble_eq_true rfl) ⟨by decide, by decide⟩ (fun _ => ?_) (fun q => absurd z_3 q)
  rcases br_some h with ⟨c_4, h⟩ | ⟨c_4, h⟩
  · refine go_if_eq (tgt := 76) (d_M_go 72 rfl) (by decide) (fun _ => ?_) (fun q => absurd (of_decide_eq_true c_4) q)
    refine go_aload_n (d_M_go 76 rfl) rfl rfl ?_
    refine go_getR (d_M_go 77 rfl) fl_M_56 rfl rfl ?_
    show Go _ _ _ _ _ _ _ _ _ (.ref (ad (116)) :: []) _ _
    refine go_iload_n (d_M_go 80 rfl) rfl rfl ?_
    refine go_iconst (x := (1 : Int32)) (d_M_go 81 rfl) (by decide) ?_
    obtain ⟨g_5, h⟩ := gd_some h
    obtain ⟨v_6, ev_6, h⟩ := ln_some h
    refine go_iast (y := (1 : Int32)) (d_M_go 82 rfl) rfl g_5 ?_
    rw [← ev_6]
    refine go_aload_n (d_M_go 83 rfl) rfl rfl ?_
    refine go_getR (d_M_go 84 rfl) fl_M_59 rfl rfl ?_
    show Go _ _ _ _ _ _ _ _ _ (.ref (ad (117)) :: []) _ _
    refine go_iload_n (d_M_go 87 rfl) rfl rfl ?_
    refine go_iload_n (d_M_go 88 rfl) rfl rfl ?_
    obtain ⟨g_7, h⟩ := gd_some h
    obtain ⟨v_8, ev_8, h⟩ := ln_some h
    refine go_iast (y := x2) (d_M_go 89 rfl) rfl g_7 ?_
    rw [← ev_8]
    refine go_aload_n (d_M_go 90 rfl) rfl rfl ?_
    refine go_getR (d_M_go 91 rfl) fl_M_62 rfl rfl ?_
    show Go _ _ _ _ _ _ _ _ _ (.ref (ad (118)) :: []) _ _
    refine go_iload_n (d_M_go 94 rfl) rfl rfl ?_
    refine go_iload_n (d_M_go 95 rfl) rfl rfl ?_
    obtain ⟨g_9, h⟩ := gd_some h
    obtain ⟨v_10, ev_10, h⟩ := ln_some h
    refine go_iast (y := x3) (d_M_go 96 rfl) rfl g_9 ?_
    rw [← ev_10]
    exact go_vret (d_M_go 97 rfl) rfl (Option.some.inj h) (by decide) (by decide)
  · refine go_if_eq (tgt := 76) (d_M_go 72 rfl) (by decide) (fun q => absurd q (of_decide_eq_false c_4)) (fun _ => ?_)
    exact go_vret (d_M_go 75 rfl) rfl (Option.some.inj h) (by decide) (by decide)
def f_M_go_68  (x1 : Int32) (x2 : Int32) (x3 : Int32) (x4 : Int32) (y1 : Int32) (y2 : Int32) (v : go_V) : Option go_R := f_M_go_69  (x1) (x2) (x3) (x4) (y1) (y2) ((0 : Int32)) (v)
set_option maxHeartbeats 4000000 in
set_option maxRecDepth 100000 in
theorem b_M_go_68 {l : Launch} {G : go_G} {ad : Nat → Nat} (hl : l.stackTraces = false) {r : go_R}  (x1 : Int32) (x2 : Int32) (x3 : Int32) (x4 : Int32) (y1 : Int32) (y2 : Int32) (v : go_V) (h : f_M_go_68  x1 x2 x3 x4 y1 y2 v = some r) : Go l G M_M_go go_Ex0 (go_E G ad 0 r 0 0) ad v [(0, .ref (ad (100))), (1, .int x1), (2, .int x2), (3, .int x3), (4, .int x4)] 68 [.int y2, .int y1, .ref (ad (100))] 0 0 := by
  unfold f_M_go_68 at h
  refine go_iconst (x := (0 : Int32)) (d_M_go 68 rfl) (by decide) ?_
  exact b_M_go_69 hl  (x1) (x2) (x3) (x4) (y1) (y2) ((0 : Int32)) (v) h
def f_M_go_64  (x1 : Int32) (x2 : Int32) (x3 : Int32) (x4 : Int32) (y1 : Int32) (y2 : Int32) (v : go_V) : Option go_R := f_M_go_69  (x1) (x2) (x3) (x4) (y1) (y2) ((1 : Int32)) (v)
set_option maxHeartbeats 4000000 in
set_option maxRecDepth 100000 in
theorem b_M_go_64 {l : Launch} {G : go_G} {ad : Nat → Nat} (hl : l.stackTraces = false) {r : go_R}  (x1 : Int32) (x2 : Int32) (x3 : Int32) (x4 : Int32) (y1 : Int32) (y2 : Int32) (v : go_V) (h : f_M_go_64  x1 x2 x3 x4 y1 y2 v = some r) : Go l G M_M_go go_Ex0 (go_E G ad 0 r 0 0) ad v [(0, .ref (ad (100))), (1, .int x1), (2, .int x2), (3, .int x3), (4, .int x4)] 64 [.int y2, .int y1, .ref (ad (100))] 0 0 := by
  unfold f_M_go_64 at h
  refine go_iconst (x := (1 : Int32)) (d_M_go 64 rfl) (by decide) ?_
  refine go_goto (tgt := 69) (d_M_go 65 rfl) (by decide) ?_
  exact b_M_go_69 hl  (x1) (x2) (x3) (x4) (y1) (y2) ((1 : Int32)) (v) h
def f_M_go_41  (x1 : Int32) (x2 : Int32) (x3 : Int32) (x4 : Int32) (y1 : Int32) (y2 : Int32) (v : go_V) : Option go_R := br (decide (x4 = 0)) (gd (go_in x1 40) (br (decide ((v 116 x1.toNatClampNeg) = 0)) (gd (go_in x2 12) (br (decide ((v 107 x2.toNatClampNeg) = 0)) (f_M_go_64  (x1) (x2) (x3) (x4) (y1) (y2) (v)) (f_M_go_68  (x1) (x2) (x3) (x4) (y1) (y2) (v)))) (f_M_go_64  (x1) (x2) (x3) (x4) (y1) (y2) (v)))) (f_M_go_68  (x1) (x2) (x3) (x4) (y1) (y2) (v))
set_option maxHeartbeats 4000000 in
set_option maxRecDepth 100000 in
theorem b_M_go_41 {l : Launch} {G : go_G} {ad : Nat → Nat} (hl : l.stackTraces = false) {r : go_R}  (x1 : Int32) (x2 : Int32) (x3 : Int32) (x4 : Int32) (y1 : Int32) (y2 : Int32) (v : go_V) (h : f_M_go_41  x1 x2 x3 x4 y1 y2 v = some r) : Go l G M_M_go go_Ex0 (go_E G ad 0 r 0 0) ad v [(0, .ref (ad (100))), (1, .int x1), (2, .int x2), (3, .int x3), (4, .int x4)] 41 [.int y2, .int y1, .ref (ad (100))] 0 0 := by
  unfold f_M_go_41 at h
  refine go_iload (d_M_go 41 rfl) rfl ?_
  rcases br_some h with ⟨c_1, h⟩ | ⟨c_1, h⟩
  · refine go_if_ne (tgt := 68) (d_M_go 43 rfl) (by decide) (fun q => absurd (of_decide_eq_true c_1) q) (fun _ => ?_)
    refine go_aload_n (d_M_go 46 rfl) rfl rfl ?_
    refine go_getR (d_M_go 47 rfl) fl_M_56 rfl rfl ?_
    show Go _ _ _ _ _ _ _ _ _ (.ref (ad (116)) :: .int y2 :: .int y1 :: .ref (ad (100)) :: []) _ _
    refine go_iload_n (d_M_go 50 rfl) rfl rfl ?_
    obtain ⟨g_2, h⟩ := gd_some h
    refine go_iald (d_M_go 51 rfl) rfl g_2 ?_
    rcases br_some h with ⟨c_3, h⟩ | ⟨c_3, h⟩
    · refine go_if_ne (tgt := 64) (d_M_go 52 rfl) (by decide) (fun q => absurd (of_decide_eq_true c_3) q) (fun _ => ?_)
      refine go_aload_n (d_M_go 55 rfl) rfl rfl ?_
      refine go_getR (d_M_go 56 rfl) fl_M_28 rfl rfl ?_
      show Go _ _ _ _ _ _ _ _ _ (.ref (ad (107)) :: .int y2 :: .int y1 :: .ref (ad (100)) :: []) _ _
      refine go_iload_n (d_M_go 59 rfl) rfl rfl ?_
      obtain ⟨g_4, h⟩ := gd_some h
      refine go_zald (d_M_go 60 rfl) rfl g_4 ?_
      rcases br_some h with ⟨c_5, h⟩ | ⟨c_5, h⟩
      · refine go_if_ne (tgt := 68) (d_M_go 61 rfl) (by decide) (fun q => absurd (of_decide_eq_true c_5) q) (fun _ => ?_)
        exact b_M_go_64 hl  (x1) (x2) (x3) (x4) (y1) (y2) (v) h
      · refine go_if_ne (tgt := 68) (d_M_go 61 rfl) (by decide) (fun _ => ?_) (fun q => absurd q (of_decide_eq_false c_5))
        exact b_M_go_68 hl  (x1) (x2) (x3) (x4) (y1) (y2) (v) h
    · refine go_if_ne (tgt := 64) (d_M_go 52 rfl) (by decide) (fun _ => ?_) (fun q => absurd q (of_decide_eq_false c_3))
      exact b_M_go_64 hl  (x1) (x2) (x3) (x4) (y1) (y2) (v) h
  · refine go_if_ne (tgt := 68) (d_M_go 43 rfl) (by decide) (fun _ => ?_) (fun q => absurd q (of_decide_eq_false c_1))
    exact b_M_go_68 hl  (x1) (x2) (x3) (x4) (y1) (y2) (v) h
def f_M_go_21  (x1 : Int32) (x2 : Int32) (x3 : Int32) (y0 : Int32) (v : go_V) : Option go_R := bd (f_M_in x3 (0 : Int32) (99999 : Int32) v) (fun r_1 => nt r_1 (br (decide (r_1.2.1 = 0)) (f_M_go_41  (x1) (x2) (x3) (y0) (y0) ((1 : Int32)) (r_1.2.2.2)) (f_M_go_41  (x1) (x2) (x3) (y0) (y0) ((0 : Int32)) (r_1.2.2.2))))
set_option maxHeartbeats 4000000 in
set_option maxRecDepth 100000 in
theorem b_M_go_21 {l : Launch} {G : go_G} {ad : Nat → Nat} (hl : l.stackTraces = false) {r : go_R}  (x1 : Int32) (x2 : Int32) (x3 : Int32) (y0 : Int32) (v : go_V) (h : f_M_go_21  x1 x2 x3 y0 v = some r) : Go l G M_M_go go_Ex0 (go_E G ad 0 r 0 0) ad v [(0, .ref (ad (100))), (1, .int x1), (2, .int x2), (3, .int x3)] 21 [.int y0] 0 0 := by
  unfold f_M_go_21 at h
  refine go_istore (lv' := [(0, .ref (ad (100))), (1, .int x1), (2, .int x2), (3, .int x3), (4, .int y0)]) (d_M_go 21 rfl) (by decide) rfl ?_
  refine go_aload_n (d_M_go 23 rfl) rfl rfl ?_
  refine go_iload (d_M_go 24 rfl) rfl ?_
  refine go_iload_n (d_M_go 26 rfl) rfl rfl ?_
  refine go_iconst (x := (0 : Int32)) (d_M_go 27 rfl) (by decide) ?_
  refine go_ldc (x := (99999 : Int32)) (d_M_go 28 rfl) w_731 ?_
  obtain ⟨r_1, o_2, h⟩ := bd_some h
  obtain ⟨z_3, h⟩ := nt_some h
  refine go_cS (As := [.int x3, .int ((0 : Int32)), .int ((99999 : Int32))]) (rest := [.int y0, .ref (ad (100))]) (st2 := [.int (r_1.2.1), .int y0, .ref (ad (100))]) (c2 := 0) (s2 := 0) rfl rfl rfl rfl (Ca_M_in hl o_2)  (d_M_go 30 rfl) cw_M_73 w_639 ⟨by decide, by decide⟩ rfl (Nat.le_of_ble_eq_true rfl) ⟨by decide, by decide⟩ (fun _ => ?_) (fun q => absurd z_3 q)
  rcases br_some h with ⟨c_4, h⟩ | ⟨c_4, h⟩
  · refine go_if_ne (tgt := 40) (d_M_go 33 rfl) (by decide) (fun q => absurd (of_decide_eq_true c_4) q) (fun _ => ?_)
    refine go_iconst (x := (1 : Int32)) (d_M_go 36 rfl) (by decide) ?_
    refine go_goto (tgt := 41) (d_M_go 37 rfl) (by decide) ?_
    exact b_M_go_41 hl  (x1) (x2) (x3) (y0) (y0) ((1 : Int32)) (r_1.2.2.2) h
  · refine go_if_ne (tgt := 40) (d_M_go 33 rfl) (by decide) (fun _ => ?_) (fun q => absurd q (of_decide_eq_false c_4))
    refine go_iconst (x := (0 : Int32)) (d_M_go 40 rfl) (by decide) ?_
    exact b_M_go_41 hl  (x1) (x2) (x3) (y0) (y0) ((0 : Int32)) (r_1.2.2.2) h
def f_M_go_16  (x1 : Int32) (x2 : Int32) (x3 : Int32) (v : go_V) : Option go_R := f_M_go_21  (x1) (x2) (x3) ((1 : Int32)) (v)
set_option maxHeartbeats 4000000 in
set_option maxRecDepth 100000 in
theorem b_M_go_16 {l : Launch} {G : go_G} {ad : Nat → Nat} (hl : l.stackTraces = false) {r : go_R}  (x1 : Int32) (x2 : Int32) (x3 : Int32) (v : go_V) (h : f_M_go_16  x1 x2 x3 v = some r) : Go l G M_M_go go_Ex0 (go_E G ad 0 r 0 0) ad v [(0, .ref (ad (100))), (1, .int x1), (2, .int x2), (3, .int x3)] 16 [] 0 0 := by
  unfold f_M_go_16 at h
  refine go_iconst (x := (1 : Int32)) (d_M_go 16 rfl) (by decide) ?_
  refine go_goto (tgt := 21) (d_M_go 17 rfl) (by decide) ?_
  exact b_M_go_21 hl  (x1) (x2) (x3) ((1 : Int32)) (v) h
def f_M_go (x1 : Int32) (x2 : Int32) (x3 : Int32) (v : go_V) : Option go_R := bd (f_M_isUnit x1 v) (fun r_1 => nt r_1 (br (decide (r_1.2.1 = 0)) (f_M_go_16  (x1) (x2) (x3) (r_1.2.2.2)) (bd (f_M_isIncident x2 r_1.2.2.2) (fun r_5 => nt r_5 (br (decide (r_5.2.1 = 0)) (f_M_go_16  (x1) (x2) (x3) (r_5.2.2.2)) (f_M_go_21  (x1) (x2) (x3) ((0 : Int32)) (r_5.2.2.2)))))))
set_option maxHeartbeats 4000000 in
set_option maxRecDepth 100000 in
theorem Ca_M_go {l : Launch} {G : go_G} {ad : Nat → Nat} (hl : l.stackTraces = false) {r : go_R} {x1 : Int32} {x2 : Int32} {x3 : Int32} {v : go_V} (h : f_M_go x1 x2 x3 v = some r) : Ca l G y_M_go (.code y_M_go c_M_go 5 none :: go_TT) (rmD 2 0) 0 ad [.ref (ad (100)), .int x1, .int x2, .int x3] v r := by
  unfold f_M_go at h
  refine go_body (own := RM) (by decide) rfl (Nat.le_of_ble_eq_true rfl) ?_
  show Go l G M_M_go go_Ex0 (go_E G ad 0 r 0 0) ad v [(0, .ref (ad (100))), (1, .int x1), (2, .int x2), (3, .int x3)] 0 [] 0 0
  refine go_aload_n (d_M_go 0 rfl) rfl rfl ?_
  refine go_iload_n (d_M_go 1 rfl) rfl rfl ?_
  obtain ⟨r_1, o_2, h⟩ := bd_some h
  obtain ⟨z_3, h⟩ := nt_some h
  refine go_cV (As := [.int x1]) (rest := []) (st2 := [.int (r_1.2.1)]) (c2 := 0) (s2 := 0) rfl rfl rfl rfl (Ca_M_isUnit hl o_2)  (d_M_go 2 rfl) cw_M_133 ⟨w_729, w_27⟩ rfl (by decide) rfl ⟨by decide, by decide⟩ rfl (Nat.le_of_ble_eq_true rfl) ⟨by decide, by decide⟩ (fun _ => ?_) (fun q => absurd z_3 q)
  rcases br_some h with ⟨c_4, h⟩ | ⟨c_4, h⟩
  · refine go_if_eq (tgt := 16) (d_M_go 5 rfl) (by decide) (fun _ => ?_) (fun q => absurd (of_decide_eq_true c_4) q)
    exact b_M_go_16 hl  (x1) (x2) (x3) (r_1.2.2.2) h
  · refine go_if_eq (tgt := 16) (d_M_go 5 rfl) (by decide) (fun q => absurd q (of_decide_eq_false c_4)) (fun _ => ?_)
    refine go_aload_n (d_M_go 8 rfl) rfl rfl ?_
    refine go_iload_n (d_M_go 9 rfl) rfl rfl ?_
    obtain ⟨r_5, o_6, h⟩ := bd_some h
    obtain ⟨z_7, h⟩ := nt_some h
    refine go_cV (As := [.int x2]) (rest := []) (st2 := [.int (r_5.2.1)]) (c2 := 0) (s2 := 0) rfl rfl rfl rfl (Ca_M_isIncident hl o_6)  (d_M_go 10 rfl) cw_M_77 ⟨w_664, w_19⟩ rfl (by decide) rfl ⟨by decide, by decide⟩ rfl (Nat.le_of_ble_eq_true rfl) ⟨by decide, by decide⟩ (fun _ => ?_) (fun q => absurd z_7 q)
    rcases br_some h with ⟨c_8, h⟩ | ⟨c_8, h⟩
    · refine go_if_ne (tgt := 20) (d_M_go 13 rfl) (by decide) (fun q => absurd (of_decide_eq_true c_8) q) (fun _ => ?_)
      exact b_M_go_16 hl  (x1) (x2) (x3) (r_5.2.2.2) h
    · refine go_if_ne (tgt := 20) (d_M_go 13 rfl) (by decide) (fun _ => ?_) (fun q => absurd q (of_decide_eq_false c_8))
      refine go_iconst (x := (0 : Int32)) (d_M_go 20 rfl) (by decide) ?_
      exact b_M_go_21 hl  (x1) (x2) (x3) ((0 : Int32)) (r_5.2.2.2) h
abbrev M_M_arrive : go_M := (c_M_arrive, 3, none, RM, [], rmD 2 0)
def f_M_arrive_35  (x1 : Int32) (x2 : Int32) (y1 : Int32) (y2 : Int32) (v : go_V) : Option go_R := bd (f_M_throwing y1 y2 (0 : Int32) v) (fun r_1 => nt r_1 (br (decide (r_1.2.1 = 0)) (gd (go_in x1 40) (ln (u2 r_1.2.2.2 116 x1.toNatClampNeg (2 : Int32)) (fun v_6 => some (0, 0, 0, v_6)))) (some (0, 0, 0, r_1.2.2.2))))
set_option maxHeartbeats 4000000 in
set_option maxRecDepth 100000 in
theorem b_M_arrive_35 {l : Launch} {G : go_G} {ad : Nat → Nat} (hl : l.stackTraces = false) {r : go_R}  (x1 : Int32) (x2 : Int32) (y1 : Int32) (y2 : Int32) (v : go_V) (h : f_M_arrive_35  x1 x2 y1 y2 v = some r) : Go l G M_M_arrive go_Ex0 (go_E G ad 0 r 0 0) ad v [(0, .ref (ad (100))), (1, .int x1), (2, .int x2)] 35 [.int y2, .int y1, .ref (ad (100))] 0 0 := by
  unfold f_M_arrive_35 at h
  refine go_iconst (x := (0 : Int32)) (d_M_arrive 35 rfl) (by decide) ?_
  obtain ⟨r_1, o_2, h⟩ := bd_some h
  obtain ⟨z_3, h⟩ := nt_some h
  refine go_cV (As := [.int y1, .int y2, .int ((0 : Int32))]) (rest := []) (st2 := [.int (r_1.2.1)]) (c2 := 0) (s2 := 0) rfl rfl rfl rfl (Ca_M_throwing hl o_2)  (d_M_arrive 36 rfl) cw_M_84 ⟨w_643, w_18⟩ rfl (by decide) rfl ⟨by decide, by decide⟩ rfl (Nat.le_of_ble_eq_true rfl) ⟨by decide, by decide⟩ (fun _ => ?_) (fun q => absurd z_3 q)
  rcases br_some h with ⟨c_4, h⟩ | ⟨c_4, h⟩
  · refine go_if_eq (tgt := 43) (d_M_arrive 39 rfl) (by decide) (fun _ => ?_) (fun q => absurd (of_decide_eq_true c_4) q)
    refine go_aload_n (d_M_arrive 43 rfl) rfl rfl ?_
    refine go_getR (d_M_arrive 44 rfl) fl_M_56 rfl rfl ?_
    show Go _ _ _ _ _ _ _ _ _ (.ref (ad (116)) :: []) _ _
    refine go_iload_n (d_M_arrive 47 rfl) rfl rfl ?_
    refine go_iconst (x := (2 : Int32)) (d_M_arrive 48 rfl) (by decide) ?_
    obtain ⟨g_5, h⟩ := gd_some h
    obtain ⟨v_6, ev_6, h⟩ := ln_some h
    refine go_iast (y := (2 : Int32)) (d_M_arrive 49 rfl) rfl g_5 ?_
    rw [← ev_6]
    exact go_vret (d_M_arrive 50 rfl) rfl (Option.some.inj h) (by decide) (by decide)
  · refine go_if_eq (tgt := 43) (d_M_arrive 39 rfl) (by decide) (fun q => absurd q (of_decide_eq_false c_4)) (fun _ => ?_)
    exact go_vret (d_M_arrive 42 rfl) rfl (Option.some.inj h) (by decide) (by decide)
def f_M_arrive_34  (x1 : Int32) (x2 : Int32) (y1 : Int32) (v : go_V) : Option go_R := f_M_arrive_35  (x1) (x2) (y1) ((0 : Int32)) (v)
set_option maxHeartbeats 4000000 in
set_option maxRecDepth 100000 in
theorem b_M_arrive_34 {l : Launch} {G : go_G} {ad : Nat → Nat} (hl : l.stackTraces = false) {r : go_R}  (x1 : Int32) (x2 : Int32) (y1 : Int32) (v : go_V) (h : f_M_arrive_34  x1 x2 y1 v = some r) : Go l G M_M_arrive go_Ex0 (go_E G ad 0 r 0 0) ad v [(0, .ref (ad (100))), (1, .int x1), (2, .int x2)] 34 [.int y1, .ref (ad (100))] 0 0 := by
  unfold f_M_arrive_34 at h
  refine go_iconst (x := (0 : Int32)) (d_M_arrive 34 rfl) (by decide) ?_
  exact b_M_arrive_35 hl  (x1) (x2) (y1) ((0 : Int32)) (v) h
def f_M_arrive_13  (x1 : Int32) (y0 : Int32) (v : go_V) : Option go_R := br (decide (y0 = 0)) (gd (go_in x1 40) (br (decide ((v 116 x1.toNatClampNeg) = (1 : Int32))) (f_M_arrive_34  (x1) (y0) (y0) (v)) (f_M_arrive_35  (x1) (y0) (y0) ((1 : Int32)) (v)))) (f_M_arrive_34  (x1) (y0) (y0) (v))
set_option maxHeartbeats 4000000 in
set_option maxRecDepth 100000 in
theorem b_M_arrive_13 {l : Launch} {G : go_G} {ad : Nat → Nat} (hl : l.stackTraces = false) {r : go_R}  (x1 : Int32) (y0 : Int32) (v : go_V) (h : f_M_arrive_13  x1 y0 v = some r) : Go l G M_M_arrive go_Ex0 (go_E G ad 0 r 0 0) ad v [(0, .ref (ad (100))), (1, .int x1)] 13 [.int y0] 0 0 := by
  unfold f_M_arrive_13 at h
  refine go_istore_n (lv' := [(0, .ref (ad (100))), (1, .int x1), (2, .int y0)]) (d_M_arrive 13 rfl) rfl (by decide) rfl ?_
  refine go_aload_n (d_M_arrive 14 rfl) rfl rfl ?_
  refine go_iload_n (d_M_arrive 15 rfl) rfl rfl ?_
  refine go_iload_n (d_M_arrive 16 rfl) rfl rfl ?_
  rcases br_some h with ⟨c_1, h⟩ | ⟨c_1, h⟩
  · refine go_if_ne (tgt := 34) (d_M_arrive 17 rfl) (by decide) (fun q => absurd (of_decide_eq_true c_1) q) (fun _ => ?_)
    refine go_aload_n (d_M_arrive 20 rfl) rfl rfl ?_
    refine go_getR (d_M_arrive 21 rfl) fl_M_56 rfl rfl ?_
    show Go _ _ _ _ _ _ _ _ _ (.ref (ad (116)) :: .int y0 :: .ref (ad (100)) :: []) _ _
    refine go_iload_n (d_M_arrive 24 rfl) rfl rfl ?_
    obtain ⟨g_2, h⟩ := gd_some h
    refine go_iald (d_M_arrive 25 rfl) rfl g_2 ?_
    refine go_iconst (x := (1 : Int32)) (d_M_arrive 26 rfl) (by decide) ?_
    rcases br_some h with ⟨c_3, h⟩ | ⟨c_3, h⟩
    · refine go_icmp_eq (tgt := 34) (d_M_arrive 27 rfl) (by decide) (fun _ => ?_) (fun q => absurd (of_decide_eq_true c_3) q)
      exact b_M_arrive_34 hl  (x1) (y0) (y0) (v) h
    · refine go_icmp_eq (tgt := 34) (d_M_arrive 27 rfl) (by decide) (fun q => absurd q (of_decide_eq_false c_3)) (fun _ => ?_)
      refine go_iconst (x := (1 : Int32)) (d_M_arrive 30 rfl) (by decide) ?_
      refine go_goto (tgt := 35) (d_M_arrive 31 rfl) (by decide) ?_
      exact b_M_arrive_35 hl  (x1) (y0) (y0) ((1 : Int32)) (v) h
  · refine go_if_ne (tgt := 34) (d_M_arrive 17 rfl) (by decide) (fun _ => ?_) (fun q => absurd q (of_decide_eq_false c_1))
    exact b_M_arrive_34 hl  (x1) (y0) (y0) (v) h
def f_M_arrive (x1 : Int32) (v : go_V) : Option go_R := bd (f_M_isUnit x1 v) (fun r_1 => nt r_1 (br (decide (r_1.2.1 = 0)) (f_M_arrive_13  (x1) ((1 : Int32)) (r_1.2.2.2)) (f_M_arrive_13  (x1) ((0 : Int32)) (r_1.2.2.2))))
set_option maxHeartbeats 4000000 in
set_option maxRecDepth 100000 in
theorem Ca_M_arrive {l : Launch} {G : go_G} {ad : Nat → Nat} (hl : l.stackTraces = false) {r : go_R} {x1 : Int32} {v : go_V} (h : f_M_arrive x1 v = some r) : Ca l G y_M_arrive (.code y_M_arrive c_M_arrive 3 none :: go_TT) (rmD 2 0) 0 ad [.ref (ad (100)), .int x1] v r := by
  unfold f_M_arrive at h
  refine go_body (own := RM) (by decide) rfl (Nat.le_of_ble_eq_true rfl) ?_
  show Go l G M_M_arrive go_Ex0 (go_E G ad 0 r 0 0) ad v [(0, .ref (ad (100))), (1, .int x1)] 0 [] 0 0
  refine go_aload_n (d_M_arrive 0 rfl) rfl rfl ?_
  refine go_iload_n (d_M_arrive 1 rfl) rfl rfl ?_
  obtain ⟨r_1, o_2, h⟩ := bd_some h
  obtain ⟨z_3, h⟩ := nt_some h
  refine go_cV (As := [.int x1]) (rest := []) (st2 := [.int (r_1.2.1)]) (c2 := 0) (s2 := 0) rfl rfl rfl rfl (Ca_M_isUnit hl o_2)  (d_M_arrive 2 rfl) cw_M_133 ⟨w_729, w_27⟩ rfl (by decide) rfl ⟨by decide, by decide⟩ rfl (Nat.le_of_ble_eq_true rfl) ⟨by decide, by decide⟩ (fun _ => ?_) (fun q => absurd z_3 q)
  rcases br_some h with ⟨c_4, h⟩ | ⟨c_4, h⟩
  · refine go_if_ne (tgt := 12) (d_M_arrive 5 rfl) (by decide) (fun q => absurd (of_decide_eq_true c_4) q) (fun _ => ?_)
    refine go_iconst (x := (1 : Int32)) (d_M_arrive 8 rfl) (by decide) ?_
    refine go_goto (tgt := 13) (d_M_arrive 9 rfl) (by decide) ?_
    exact b_M_arrive_13 hl  (x1) ((1 : Int32)) (r_1.2.2.2) h
  · refine go_if_ne (tgt := 12) (d_M_arrive 5 rfl) (by decide) (fun _ => ?_) (fun q => absurd q (of_decide_eq_false c_4))
    refine go_iconst (x := (0 : Int32)) (d_M_arrive 12 rfl) (by decide) ?_
    exact b_M_arrive_13 hl  (x1) ((0 : Int32)) (r_1.2.2.2) h
abbrev M_M_needed : go_M := (c_M_needed, 4, (some .int), RM, [], rmD 2 0)
def f_M_needed_44  (x1 : Int32) (x2 : Int32) (x3 : Int32) (y1 : Int32) (y2 : Int32) (v : go_V) : Option go_R := bd (f_M_throwing y1 y2 (0 : Int32) v) (fun r_1 => nt r_1 (br (decide (r_1.2.1 = 0)) (gd (go_in x1 12) (gd (go_in (((8 : Int32) * (r_1.2.2.2 108 x1.toNatClampNeg)) + x2) 80) (bd (f_M_withSkill x1 x2 r_1.2.2.2) (fun r_7 => nt r_7 (some (0, ((r_1.2.2.2 101 (((8 : Int32) * (r_1.2.2.2 108 x1.toNatClampNeg)) + x2).toNatClampNeg) - r_7.2.1), 0, r_7.2.2.2)))))) (some (0, (0 : Int32), 0, r_1.2.2.2))))
set_option maxHeartbeats 4000000 in
set_option maxRecDepth 100000 in
theorem b_M_needed_44 {l : Launch} {G : go_G} {ad : Nat → Nat} (hl : l.stackTraces = false) {r : go_R}  (x1 : Int32) (x2 : Int32) (x3 : Int32) (y1 : Int32) (y2 : Int32) (v : go_V) (h : f_M_needed_44  x1 x2 x3 y1 y2 v = some r) : Go l G M_M_needed go_Ex0 (go_E G ad 1 r 0 0) ad v [(0, .ref (ad (100))), (1, .int x1), (2, .int x2), (3, .int x3)] 44 [.int y2, .int y1, .ref (ad (100))] 0 0 := by
  unfold f_M_needed_44 at h
  refine go_iconst (x := (0 : Int32)) (d_M_needed 44 rfl) (by decide) ?_
  obtain ⟨r_1, o_2, h⟩ := bd_some h
  obtain ⟨z_3, h⟩ := nt_some h
  refine go_cV (As := [.int y1, .int y2, .int ((0 : Int32))]) (rest := []) (st2 := [.int (r_1.2.1)]) (c2 := 0) (s2 := 0) rfl rfl rfl rfl (Ca_M_throwing hl o_2)  (d_M_needed 45 rfl) cw_M_84 ⟨w_643, w_18⟩ rfl (by decide) rfl ⟨by decide, by decide⟩ rfl (Nat.le_of_ble_eq_true rfl) ⟨by decide, by decide⟩ (fun _ => ?_) (fun q => absurd z_3 q)
  rcases br_some h with ⟨c_4, h⟩ | ⟨c_4, h⟩
  · refine go_if_eq (tgt := 53) (d_M_needed 48 rfl) (by decide) (fun _ => ?_) (fun q => absurd (of_decide_eq_true c_4) q)
    refine go_aload_n (d_M_needed 53 rfl) rfl rfl ?_
    refine go_getR (d_M_needed 54 rfl) fl_M_7 rfl rfl ?_
    show Go _ _ _ _ _ _ _ _ _ (.ref (ad (101)) :: []) _ _
    refine go_bipush (x := (8 : Int32)) (d_M_needed 57 rfl) (by decide) ?_
    refine go_aload_n (d_M_needed 59 rfl) rfl rfl ?_
    refine go_getR (d_M_needed 60 rfl) fl_M_32 rfl rfl ?_
    show Go _ _ _ _ _ _ _ _ _ (.ref (ad (108)) :: .int ((8 : Int32)) :: .ref (ad (101)) :: []) _ _
    refine go_iload_n (d_M_needed 63 rfl) rfl rfl ?_
    obtain ⟨g_5, h⟩ := gd_some h
    refine go_iald (d_M_needed 64 rfl) rfl g_5 ?_
    refine go_imul (d_M_needed 65 rfl) ?_
    refine go_iload_n (d_M_needed 66 rfl) rfl rfl ?_
    refine go_iadd (d_M_needed 67 rfl) ?_
    obtain ⟨g_6, h⟩ := gd_some h
    refine go_iald (d_M_needed 68 rfl) rfl g_6 ?_
    refine go_aload_n (d_M_needed 69 rfl) rfl rfl ?_
    refine go_iload_n (d_M_needed 70 rfl) rfl rfl ?_
    refine go_iload_n (d_M_needed 71 rfl) rfl rfl ?_
    obtain ⟨r_7, o_8, h⟩ := bd_some h
    obtain ⟨z_9, h⟩ := nt_some h
    refine go_cV (As := [.int x1, .int x2]) (rest := [.int ((r_1.2.2.2 101 (((8 : Int32) * (r_1.2.2.2 108 x1.toNatClampNeg)) + x2).toNatClampNeg))]) (st2 := [.int (r_7.2.1), .int ((r_1.2.2.2 101 (((8 : Int32) * (r_1.2.2.2 108 x1.toNatClampNeg)) + x2).toNatClampNeg))]) (c2 := 0) (s2 := 0) rfl rfl rfl rfl (Ca_M_withSkill hl o_8)  (d_M_needed 72 rfl) cw_M_124 ⟨w_713, w_25⟩ rfl (by decide) rfl ⟨by decide, by decide⟩ rfl (Nat.le_of_ble_eq_true rfl) ⟨by decide, by decide⟩ (fun _ => ?_) (fun q => absurd z_9 q)
    refine go_isub (d_M_needed 75 rfl) ?_
    exact go_iret (d_M_needed 76 rfl) rfl rfl (Option.some.inj h) (by decide) (by decide)
  · refine go_if_eq (tgt := 53) (d_M_needed 48 rfl) (by decide) (fun q => absurd q (of_decide_eq_false c_4)) (fun _ => ?_)
    refine go_iconst (x := (0 : Int32)) (d_M_needed 51 rfl) (by decide) ?_
    exact go_iret (d_M_needed 52 rfl) rfl rfl (Option.some.inj h) (by decide) (by decide)
def f_M_needed_43  (x1 : Int32) (x2 : Int32) (x3 : Int32) (y1 : Int32) (v : go_V) : Option go_R := f_M_needed_44  (x1) (x2) (x3) (y1) ((0 : Int32)) (v)
set_option maxHeartbeats 4000000 in
set_option maxRecDepth 100000 in
theorem b_M_needed_43 {l : Launch} {G : go_G} {ad : Nat → Nat} (hl : l.stackTraces = false) {r : go_R}  (x1 : Int32) (x2 : Int32) (x3 : Int32) (y1 : Int32) (v : go_V) (h : f_M_needed_43  x1 x2 x3 y1 v = some r) : Go l G M_M_needed go_Ex0 (go_E G ad 1 r 0 0) ad v [(0, .ref (ad (100))), (1, .int x1), (2, .int x2), (3, .int x3)] 43 [.int y1, .ref (ad (100))] 0 0 := by
  unfold f_M_needed_43 at h
  refine go_iconst (x := (0 : Int32)) (d_M_needed 43 rfl) (by decide) ?_
  exact b_M_needed_44 hl  (x1) (x2) (x3) (y1) ((0 : Int32)) (v) h
def f_M_needed_23  (x1 : Int32) (x2 : Int32) (y0 : Int32) (v : go_V) : Option go_R := br (decide (y0 = 0)) (gd (go_in x1 12) (br (decide ((v 107 x1.toNatClampNeg) = 0)) (f_M_needed_44  (x1) (x2) (y0) (y0) ((1 : Int32)) (v)) (f_M_needed_43  (x1) (x2) (y0) (y0) (v)))) (f_M_needed_43  (x1) (x2) (y0) (y0) (v))
set_option maxHeartbeats 4000000 in
set_option maxRecDepth 100000 in
theorem b_M_needed_23 {l : Launch} {G : go_G} {ad : Nat → Nat} (hl : l.stackTraces = false) {r : go_R}  (x1 : Int32) (x2 : Int32) (y0 : Int32) (v : go_V) (h : f_M_needed_23  x1 x2 y0 v = some r) : Go l G M_M_needed go_Ex0 (go_E G ad 1 r 0 0) ad v [(0, .ref (ad (100))), (1, .int x1), (2, .int x2)] 23 [.int y0] 0 0 := by
  unfold f_M_needed_23 at h
  refine go_istore_n (lv' := [(0, .ref (ad (100))), (1, .int x1), (2, .int x2), (3, .int y0)]) (d_M_needed 23 rfl) rfl (by decide) rfl ?_
  refine go_aload_n (d_M_needed 24 rfl) rfl rfl ?_
  refine go_iload_n (d_M_needed 25 rfl) rfl rfl ?_
  refine go_iload_n (d_M_needed 26 rfl) rfl rfl ?_
  rcases br_some h with ⟨c_1, h⟩ | ⟨c_1, h⟩
  · refine go_if_ne (tgt := 43) (d_M_needed 27 rfl) (by decide) (fun q => absurd (of_decide_eq_true c_1) q) (fun _ => ?_)
    refine go_aload_n (d_M_needed 30 rfl) rfl rfl ?_
    refine go_getR (d_M_needed 31 rfl) fl_M_28 rfl rfl ?_
    show Go _ _ _ _ _ _ _ _ _ (.ref (ad (107)) :: .int y0 :: .ref (ad (100)) :: []) _ _
    refine go_iload_n (d_M_needed 34 rfl) rfl rfl ?_
    obtain ⟨g_2, h⟩ := gd_some h
    refine go_zald (d_M_needed 35 rfl) rfl g_2 ?_
    rcases br_some h with ⟨c_3, h⟩ | ⟨c_3, h⟩
    · refine go_if_ne (tgt := 43) (d_M_needed 36 rfl) (by decide) (fun q => absurd (of_decide_eq_true c_3) q) (fun _ => ?_)
      refine go_iconst (x := (1 : Int32)) (d_M_needed 39 rfl) (by decide) ?_
      refine go_goto (tgt := 44) (d_M_needed 40 rfl) (by decide) ?_
      exact b_M_needed_44 hl  (x1) (x2) (y0) (y0) ((1 : Int32)) (v) h
    · refine go_if_ne (tgt := 43) (d_M_needed 36 rfl) (by decide) (fun _ => ?_) (fun q => absurd q (of_decide_eq_false c_3))
      exact b_M_needed_43 hl  (x1) (x2) (y0) (y0) (v) h
  · refine go_if_ne (tgt := 43) (d_M_needed 27 rfl) (by decide) (fun _ => ?_) (fun q => absurd q (of_decide_eq_false c_1))
    exact b_M_needed_43 hl  (x1) (x2) (y0) (y0) (v) h
def f_M_needed_18  (x1 : Int32) (x2 : Int32) (v : go_V) : Option go_R := f_M_needed_23  (x1) (x2) ((1 : Int32)) (v)
set_option maxHeartbeats 4000000 in
set_option maxRecDepth 100000 in
theorem b_M_needed_18 {l : Launch} {G : go_G} {ad : Nat → Nat} (hl : l.stackTraces = false) {r : go_R}  (x1 : Int32) (x2 : Int32) (v : go_V) (h : f_M_needed_18  x1 x2 v = some r) : Go l G M_M_needed go_Ex0 (go_E G ad 1 r 0 0) ad v [(0, .ref (ad (100))), (1, .int x1), (2, .int x2)] 18 [] 0 0 := by
  unfold f_M_needed_18 at h
  refine go_iconst (x := (1 : Int32)) (d_M_needed 18 rfl) (by decide) ?_
  refine go_goto (tgt := 23) (d_M_needed 19 rfl) (by decide) ?_
  exact b_M_needed_23 hl  (x1) (x2) ((1 : Int32)) (v) h
def f_M_needed (x1 : Int32) (x2 : Int32) (v : go_V) : Option go_R := bd (f_M_isIncident x1 v) (fun r_1 => nt r_1 (br (decide (r_1.2.1 = 0)) (f_M_needed_18  (x1) (x2) (r_1.2.2.2)) (bd (f_M_in x2 (0 : Int32) (7 : Int32) r_1.2.2.2) (fun r_5 => nt r_5 (br (decide (r_5.2.1 = 0)) (f_M_needed_18  (x1) (x2) (r_5.2.2.2)) (f_M_needed_23  (x1) (x2) ((0 : Int32)) (r_5.2.2.2)))))))
set_option maxHeartbeats 4000000 in
set_option maxRecDepth 100000 in
theorem Ca_M_needed {l : Launch} {G : go_G} {ad : Nat → Nat} (hl : l.stackTraces = false) {r : go_R} {x1 : Int32} {x2 : Int32} {v : go_V} (h : f_M_needed x1 x2 v = some r) : Ca l G y_M_needed (.code y_M_needed c_M_needed 4 (some .int) :: go_TT) (rmD 2 0) 1 ad [.ref (ad (100)), .int x1, .int x2] v r := by
  unfold f_M_needed at h
  refine go_body (own := RM) (by decide) rfl (Nat.le_of_ble_eq_true rfl) ?_
  show Go l G M_M_needed go_Ex0 (go_E G ad 1 r 0 0) ad v [(0, .ref (ad (100))), (1, .int x1), (2, .int x2)] 0 [] 0 0
  refine go_aload_n (d_M_needed 0 rfl) rfl rfl ?_
  refine go_iload_n (d_M_needed 1 rfl) rfl rfl ?_
  obtain ⟨r_1, o_2, h⟩ := bd_some h
  obtain ⟨z_3, h⟩ := nt_some h
  refine go_cV (As := [.int x1]) (rest := []) (st2 := [.int (r_1.2.1)]) (c2 := 0) (s2 := 0) rfl rfl rfl rfl (Ca_M_isIncident hl o_2)  (d_M_needed 2 rfl) cw_M_77 ⟨w_664, w_19⟩ rfl (by decide) rfl ⟨by decide, by decide⟩ rfl (Nat.le_of_ble_eq_true rfl) ⟨by decide, by decide⟩ (fun _ => ?_) (fun q => absurd z_3 q)
  rcases br_some h with ⟨c_4, h⟩ | ⟨c_4, h⟩
  · refine go_if_eq (tgt := 18) (d_M_needed 5 rfl) (by decide) (fun _ => ?_) (fun q => absurd (of_decide_eq_true c_4) q)
    exact b_M_needed_18 hl  (x1) (x2) (r_1.2.2.2) h
  · refine go_if_eq (tgt := 18) (d_M_needed 5 rfl) (by decide) (fun q => absurd q (of_decide_eq_false c_4)) (fun _ => ?_)
    refine go_iload_n (d_M_needed 8 rfl) rfl rfl ?_
    refine go_iconst (x := (0 : Int32)) (d_M_needed 9 rfl) (by decide) ?_
    refine go_bipush (x := (7 : Int32)) (d_M_needed 10 rfl) (by decide) ?_
    obtain ⟨r_5, o_6, h⟩ := bd_some h
    obtain ⟨z_7, h⟩ := nt_some h
    refine go_cS (As := [.int x2, .int ((0 : Int32)), .int ((7 : Int32))]) (rest := []) (st2 := [.int (r_5.2.1)]) (c2 := 0) (s2 := 0) rfl rfl rfl rfl (Ca_M_in hl o_6)  (d_M_needed 12 rfl) cw_M_73 w_639 ⟨by decide, by decide⟩ rfl (Nat.le_of_ble_eq_true rfl) ⟨by decide, by decide⟩ (fun _ => ?_) (fun q => absurd z_7 q)
    rcases br_some h with ⟨c_8, h⟩ | ⟨c_8, h⟩
    · refine go_if_ne (tgt := 22) (d_M_needed 15 rfl) (by decide) (fun q => absurd (of_decide_eq_true c_8) q) (fun _ => ?_)
      exact b_M_needed_18 hl  (x1) (x2) (r_5.2.2.2) h
    · refine go_if_ne (tgt := 22) (d_M_needed 15 rfl) (by decide) (fun _ => ?_) (fun q => absurd q (of_decide_eq_false c_8))
      refine go_iconst (x := (0 : Int32)) (d_M_needed 22 rfl) (by decide) ?_
      exact b_M_needed_23 hl  (x1) (x2) ((0 : Int32)) (r_5.2.2.2) h
abbrev M_M_incident : go_M := (c_M_incident, 3, (some .int), RM, [], rmD 2 0)
def f_M_incident_24  (x1 : Int32) (x2 : Int32) (y1 : Int32) (v : go_V) : Option go_R := bd (f_M_throwing y1 (0 : Int32) (0 : Int32) v) (fun r_1 => nt r_1 (br (decide (r_1.2.1 = 0)) (br (go_in x2 6) (br (Nat.beq x2.toNatClampNeg 0) (gd (go_in x1 12) (some (0, (r_1.2.2.2 108 x1.toNatClampNeg), 0, r_1.2.2.2))) (br (Nat.beq x2.toNatClampNeg 1) (gd (go_in x1 12) (br (decide ((r_1.2.2.2 107 x1.toNatClampNeg) = 0)) (some (0, (0 : Int32), 0, r_1.2.2.2)) (some (0, (1 : Int32), 0, r_1.2.2.2)))) (br (Nat.beq x2.toNatClampNeg 2) (gd (go_in x1 12) (some (0, (r_1.2.2.2 109 x1.toNatClampNeg), 0, r_1.2.2.2))) (br (Nat.beq x2.toNatClampNeg 3) (gd (go_in x1 12) (some (0, (r_1.2.2.2 110 x1.toNatClampNeg), 0, r_1.2.2.2))) (br (Nat.beq x2.toNatClampNeg 4) (gd (go_in x1 12) (some (0, (r_1.2.2.2 111 x1.toNatClampNeg), 0, r_1.2.2.2))) (br (Nat.beq x2.toNatClampNeg 5) (gd (go_in x1 12) (some (0, (r_1.2.2.2 112 x1.toNatClampNeg), 0, r_1.2.2.2))) (none))))))) (gd (go_in x1 12) (some (0, (r_1.2.2.2 113 x1.toNatClampNeg), 0, r_1.2.2.2)))) (some (0, (0 : Int32), 0, r_1.2.2.2))))
set_option maxHeartbeats 4000000 in
set_option maxRecDepth 100000 in
theorem b_M_incident_24 {l : Launch} {G : go_G} {ad : Nat → Nat} (hl : l.stackTraces = false) {r : go_R}  (x1 : Int32) (x2 : Int32) (y1 : Int32) (v : go_V) (h : f_M_incident_24  x1 x2 y1 v = some r) : Go l G M_M_incident go_Ex0 (go_E G ad 1 r 0 0) ad v [(0, .ref (ad (100))), (1, .int x1), (2, .int x2)] 24 [.int y1, .ref (ad (100))] 0 0 := by
  unfold f_M_incident_24 at h
  refine go_iconst (x := (0 : Int32)) (d_M_incident 24 rfl) (by decide) ?_
  refine go_iconst (x := (0 : Int32)) (d_M_incident 25 rfl) (by decide) ?_
  obtain ⟨r_1, o_2, h⟩ := bd_some h
  obtain ⟨z_3, h⟩ := nt_some h
  refine go_cV (As := [.int y1, .int ((0 : Int32)), .int ((0 : Int32))]) (rest := []) (st2 := [.int (r_1.2.1)]) (c2 := 0) (s2 := 0) rfl rfl rfl rfl (Ca_M_throwing hl o_2)  (d_M_incident 26 rfl) cw_M_84 ⟨w_643, w_18⟩ rfl (by decide) rfl ⟨by decide, by decide⟩ rfl (Nat.le_of_ble_eq_true rfl) ⟨by decide, by decide⟩ (fun _ => ?_) (fun q => absurd z_3 q)
  rcases br_some h with ⟨c_4, h⟩ | ⟨c_4, h⟩
  · refine go_if_eq (tgt := 34) (d_M_incident 29 rfl) (by decide) (fun _ => ?_) (fun q => absurd (of_decide_eq_true c_4) q)
    refine go_iload_n (d_M_incident 34 rfl) rfl rfl ?_
    rcases br_some h with ⟨c_5, h⟩ | ⟨c_5, h⟩
    · rcases br_some h with ⟨c_7, h⟩ | ⟨c_7, h⟩
      · refine go_tsw (tgt := 72) (n := 5) (d_M_incident 35 rfl) c_5 rfl c_7 rfl (by decide) ?_
        refine go_aload_n (d_M_incident 72 rfl) rfl rfl ?_
        refine go_getR (d_M_incident 73 rfl) fl_M_32 rfl rfl ?_
        show Go _ _ _ _ _ _ _ _ _ (.ref (ad (108)) :: []) _ _
        refine go_iload_n (d_M_incident 76 rfl) rfl rfl ?_
        obtain ⟨g_8, h⟩ := gd_some h
        refine go_iald (d_M_incident 77 rfl) rfl g_8 ?_
        exact go_iret (d_M_incident 78 rfl) rfl rfl (Option.some.inj h) (by decide) (by decide)
      rcases br_some h with ⟨c_9, h⟩ | ⟨c_9, h⟩
      · refine go_tsw (tgt := 79) (n := 5) (d_M_incident 35 rfl) c_5 rfl c_9 rfl (by decide) ?_
        refine go_aload_n (d_M_incident 79 rfl) rfl rfl ?_
        refine go_getR (d_M_incident 80 rfl) fl_M_28 rfl rfl ?_
        show Go _ _ _ _ _ _ _ _ _ (.ref (ad (107)) :: []) _ _
        refine go_iload_n (d_M_incident 83 rfl) rfl rfl ?_
        obtain ⟨g_10, h⟩ := gd_some h
        refine go_zald (d_M_incident 84 rfl) rfl g_10 ?_
        rcases br_some h with ⟨c_11, h⟩ | ⟨c_11, h⟩
        · refine go_if_eq (tgt := 92) (d_M_incident 85 rfl) (by decide) (fun _ => ?_) (fun q => absurd (of_decide_eq_true c_11) q)
          refine go_iconst (x := (0 : Int32)) (d_M_incident 92 rfl) (by decide) ?_
          exact go_iret (d_M_incident 93 rfl) rfl rfl (Option.some.inj h) (by decide) (by decide)
        · refine go_if_eq (tgt := 92) (d_M_incident 85 rfl) (by decide) (fun q => absurd q (of_decide_eq_false c_11)) (fun _ => ?_)
          refine go_iconst (x := (1 : Int32)) (d_M_incident 88 rfl) (by decide) ?_
          refine go_goto (tgt := 93) (d_M_incident 89 rfl) (by decide) ?_
          exact go_iret (d_M_incident 93 rfl) rfl rfl (Option.some.inj h) (by decide) (by decide)
      rcases br_some h with ⟨c_12, h⟩ | ⟨c_12, h⟩
      · refine go_tsw (tgt := 94) (n := 5) (d_M_incident 35 rfl) c_5 rfl c_12 rfl (by decide) ?_
        refine go_aload_n (d_M_incident 94 rfl) rfl rfl ?_
        refine go_getR (d_M_incident 95 rfl) fl_M_35 rfl rfl ?_
        show Go _ _ _ _ _ _ _ _ _ (.ref (ad (109)) :: []) _ _
        refine go_iload_n (d_M_incident 98 rfl) rfl rfl ?_
        obtain ⟨g_13, h⟩ := gd_some h
        refine go_iald (d_M_incident 99 rfl) rfl g_13 ?_
        exact go_iret (d_M_incident 100 rfl) rfl rfl (Option.some.inj h) (by decide) (by decide)
      rcases br_some h with ⟨c_14, h⟩ | ⟨c_14, h⟩
      · refine go_tsw (tgt := 101) (n := 5) (d_M_incident 35 rfl) c_5 rfl c_14 rfl (by decide) ?_
        refine go_aload_n (d_M_incident 101 rfl) rfl rfl ?_
        refine go_getR (d_M_incident 102 rfl) fl_M_38 rfl rfl ?_
        show Go _ _ _ _ _ _ _ _ _ (.ref (ad (110)) :: []) _ _
        refine go_iload_n (d_M_incident 105 rfl) rfl rfl ?_
        obtain ⟨g_15, h⟩ := gd_some h
        refine go_iald (d_M_incident 106 rfl) rfl g_15 ?_
        exact go_iret (d_M_incident 107 rfl) rfl rfl (Option.some.inj h) (by decide) (by decide)
      rcases br_some h with ⟨c_16, h⟩ | ⟨c_16, h⟩
      · refine go_tsw (tgt := 108) (n := 5) (d_M_incident 35 rfl) c_5 rfl c_16 rfl (by decide) ?_
        refine go_aload_n (d_M_incident 108 rfl) rfl rfl ?_
        refine go_getR (d_M_incident 109 rfl) fl_M_41 rfl rfl ?_
        show Go _ _ _ _ _ _ _ _ _ (.ref (ad (111)) :: []) _ _
        refine go_iload_n (d_M_incident 112 rfl) rfl rfl ?_
        obtain ⟨g_17, h⟩ := gd_some h
        refine go_iald (d_M_incident 113 rfl) rfl g_17 ?_
        exact go_iret (d_M_incident 114 rfl) rfl rfl (Option.some.inj h) (by decide) (by decide)
      rcases br_some h with ⟨c_18, h⟩ | ⟨c_18, h⟩
      · refine go_tsw (tgt := 115) (n := 5) (d_M_incident 35 rfl) c_5 rfl c_18 rfl (by decide) ?_
        refine go_aload_n (d_M_incident 115 rfl) rfl rfl ?_
        refine go_getR (d_M_incident 116 rfl) fl_M_44 rfl rfl ?_
        show Go _ _ _ _ _ _ _ _ _ (.ref (ad (112)) :: []) _ _
        refine go_iload_n (d_M_incident 119 rfl) rfl rfl ?_
        obtain ⟨g_19, h⟩ := gd_some h
        refine go_iald (d_M_incident 120 rfl) rfl g_19 ?_
        exact go_iret (d_M_incident 121 rfl) rfl rfl (Option.some.inj h) (by decide) (by decide)
      cases h
    · refine go_tswO (tgt := 122) (n := 5) (d_M_incident 35 rfl) c_5 rfl (by decide) ?_
      refine go_aload_n (d_M_incident 122 rfl) rfl rfl ?_
      refine go_getR (d_M_incident 123 rfl) fl_M_47 rfl rfl ?_
      show Go _ _ _ _ _ _ _ _ _ (.ref (ad (113)) :: []) _ _
      refine go_iload_n (d_M_incident 126 rfl) rfl rfl ?_
      obtain ⟨g_6, h⟩ := gd_some h
      refine go_iald (d_M_incident 127 rfl) rfl g_6 ?_
      exact go_iret (d_M_incident 128 rfl) rfl rfl (Option.some.inj h) (by decide) (by decide)
  · refine go_if_eq (tgt := 34) (d_M_incident 29 rfl) (by decide) (fun q => absurd q (of_decide_eq_false c_4)) (fun _ => ?_)
    refine go_iconst (x := (0 : Int32)) (d_M_incident 32 rfl) (by decide) ?_
    exact go_iret (d_M_incident 33 rfl) rfl rfl (Option.some.inj h) (by decide) (by decide)
def f_M_incident_19  (x1 : Int32) (x2 : Int32) (v : go_V) : Option go_R := f_M_incident_24  (x1) (x2) ((1 : Int32)) (v)
set_option maxHeartbeats 4000000 in
set_option maxRecDepth 100000 in
theorem b_M_incident_19 {l : Launch} {G : go_G} {ad : Nat → Nat} (hl : l.stackTraces = false) {r : go_R}  (x1 : Int32) (x2 : Int32) (v : go_V) (h : f_M_incident_19  x1 x2 v = some r) : Go l G M_M_incident go_Ex0 (go_E G ad 1 r 0 0) ad v [(0, .ref (ad (100))), (1, .int x1), (2, .int x2)] 19 [.ref (ad (100))] 0 0 := by
  unfold f_M_incident_19 at h
  refine go_iconst (x := (1 : Int32)) (d_M_incident 19 rfl) (by decide) ?_
  refine go_goto (tgt := 24) (d_M_incident 20 rfl) (by decide) ?_
  exact b_M_incident_24 hl  (x1) (x2) ((1 : Int32)) (v) h
def f_M_incident (x1 : Int32) (x2 : Int32) (v : go_V) : Option go_R := bd (f_M_isIncident x1 v) (fun r_1 => nt r_1 (br (decide (r_1.2.1 = 0)) (f_M_incident_19  (x1) (x2) (r_1.2.2.2)) (bd (f_M_in x2 (0 : Int32) (6 : Int32) r_1.2.2.2) (fun r_5 => nt r_5 (br (decide (r_5.2.1 = 0)) (f_M_incident_19  (x1) (x2) (r_5.2.2.2)) (f_M_incident_24  (x1) (x2) ((0 : Int32)) (r_5.2.2.2)))))))
set_option maxHeartbeats 4000000 in
set_option maxRecDepth 100000 in
theorem Ca_M_incident {l : Launch} {G : go_G} {ad : Nat → Nat} (hl : l.stackTraces = false) {r : go_R} {x1 : Int32} {x2 : Int32} {v : go_V} (h : f_M_incident x1 x2 v = some r) : Ca l G y_M_incident (.code y_M_incident c_M_incident 3 (some .int) :: go_TT) (rmD 2 0) 1 ad [.ref (ad (100)), .int x1, .int x2] v r := by
  unfold f_M_incident at h
  refine go_body (own := RM) (by decide) rfl (Nat.le_of_ble_eq_true rfl) ?_
  show Go l G M_M_incident go_Ex0 (go_E G ad 1 r 0 0) ad v [(0, .ref (ad (100))), (1, .int x1), (2, .int x2)] 0 [] 0 0
  refine go_aload_n (d_M_incident 0 rfl) rfl rfl ?_
  refine go_aload_n (d_M_incident 1 rfl) rfl rfl ?_
  refine go_iload_n (d_M_incident 2 rfl) rfl rfl ?_
  obtain ⟨r_1, o_2, h⟩ := bd_some h
  obtain ⟨z_3, h⟩ := nt_some h
  refine go_cV (As := [.int x1]) (rest := [.ref (ad (100))]) (st2 := [.int (r_1.2.1), .ref (ad (100))]) (c2 := 0) (s2 := 0) rfl rfl rfl rfl (Ca_M_isIncident hl o_2)  (d_M_incident 3 rfl) cw_M_77 ⟨w_664, w_19⟩ rfl (by decide) rfl ⟨by decide, by decide⟩ rfl (Nat.le_of_ble_eq_true rfl) ⟨by decide, by decide⟩ (fun _ => ?_) (fun q => absurd z_3 q)
  rcases br_some h with ⟨c_4, h⟩ | ⟨c_4, h⟩
  · refine go_if_eq (tgt := 19) (d_M_incident 6 rfl) (by decide) (fun _ => ?_) (fun q => absurd (of_decide_eq_true c_4) q)
    exact b_M_incident_19 hl  (x1) (x2) (r_1.2.2.2) h
  · refine go_if_eq (tgt := 19) (d_M_incident 6 rfl) (by decide) (fun q => absurd q (of_decide_eq_false c_4)) (fun _ => ?_)
    refine go_iload_n (d_M_incident 9 rfl) rfl rfl ?_
    refine go_iconst (x := (0 : Int32)) (d_M_incident 10 rfl) (by decide) ?_
    refine go_bipush (x := (6 : Int32)) (d_M_incident 11 rfl) (by decide) ?_
    obtain ⟨r_5, o_6, h⟩ := bd_some h
    obtain ⟨z_7, h⟩ := nt_some h
    refine go_cS (As := [.int x2, .int ((0 : Int32)), .int ((6 : Int32))]) (rest := [.ref (ad (100))]) (st2 := [.int (r_5.2.1), .ref (ad (100))]) (c2 := 0) (s2 := 0) rfl rfl rfl rfl (Ca_M_in hl o_6)  (d_M_incident 13 rfl) cw_M_73 w_639 ⟨by decide, by decide⟩ rfl (Nat.le_of_ble_eq_true rfl) ⟨by decide, by decide⟩ (fun _ => ?_) (fun q => absurd z_7 q)
    rcases br_some h with ⟨c_8, h⟩ | ⟨c_8, h⟩
    · refine go_if_ne (tgt := 23) (d_M_incident 16 rfl) (by decide) (fun q => absurd (of_decide_eq_true c_8) q) (fun _ => ?_)
      exact b_M_incident_19 hl  (x1) (x2) (r_5.2.2.2) h
    · refine go_if_ne (tgt := 23) (d_M_incident 16 rfl) (by decide) (fun _ => ?_) (fun q => absurd q (of_decide_eq_false c_8))
      refine go_iconst (x := (0 : Int32)) (d_M_incident 23 rfl) (by decide) ?_
      exact b_M_incident_24 hl  (x1) (x2) ((0 : Int32)) (r_5.2.2.2) h
abbrev M_M_unitAt : go_M := (c_M_unitAt, 3, (some .int), RM, [], rmD 2 0)
def f_M_unitAt_23  (x1 : Int32) (x2 : Int32) (y1 : Int32) (v : go_V) : Option go_R := bd (f_M_throwing y1 (0 : Int32) (0 : Int32) v) (fun r_1 => nt r_1 (br (decide (r_1.2.1 = 0)) (br (decide (x2 = 0)) (gd (go_in x1 40) (some (0, (r_1.2.2.2 116 x1.toNatClampNeg), 0, r_1.2.2.2))) (br (decide (x2 = (1 : Int32))) (gd (go_in x1 40) (some (0, (r_1.2.2.2 117 x1.toNatClampNeg), 0, r_1.2.2.2))) (gd (go_in x1 40) (some (0, (r_1.2.2.2 118 x1.toNatClampNeg), 0, r_1.2.2.2))))) (some (0, (0 : Int32), 0, r_1.2.2.2))))
set_option maxHeartbeats 4000000 in
set_option maxRecDepth 100000 in
theorem b_M_unitAt_23 {l : Launch} {G : go_G} {ad : Nat → Nat} (hl : l.stackTraces = false) {r : go_R}  (x1 : Int32) (x2 : Int32) (y1 : Int32) (v : go_V) (h : f_M_unitAt_23  x1 x2 y1 v = some r) : Go l G M_M_unitAt go_Ex0 (go_E G ad 1 r 0 0) ad v [(0, .ref (ad (100))), (1, .int x1), (2, .int x2)] 23 [.int y1, .ref (ad (100))] 0 0 := by
  unfold f_M_unitAt_23 at h
  refine go_iconst (x := (0 : Int32)) (d_M_unitAt 23 rfl) (by decide) ?_
  refine go_iconst (x := (0 : Int32)) (d_M_unitAt 24 rfl) (by decide) ?_
  obtain ⟨r_1, o_2, h⟩ := bd_some h
  obtain ⟨z_3, h⟩ := nt_some h
  refine go_cV (As := [.int y1, .int ((0 : Int32)), .int ((0 : Int32))]) (rest := []) (st2 := [.int (r_1.2.1)]) (c2 := 0) (s2 := 0) rfl rfl rfl rfl (Ca_M_throwing hl o_2)  (d_M_unitAt 25 rfl) cw_M_84 ⟨w_643, w_18⟩ rfl (by decide) rfl ⟨by decide, by decide⟩ rfl (Nat.le_of_ble_eq_true rfl) ⟨by decide, by decide⟩ (fun _ => ?_) (fun q => absurd z_3 q)
  rcases br_some h with ⟨c_4, h⟩ | ⟨c_4, h⟩
  · refine go_if_eq (tgt := 33) (d_M_unitAt 28 rfl) (by decide) (fun _ => ?_) (fun q => absurd (of_decide_eq_true c_4) q)
    refine go_iload_n (d_M_unitAt 33 rfl) rfl rfl ?_
    rcases br_some h with ⟨c_5, h⟩ | ⟨c_5, h⟩
    · refine go_if_ne (tgt := 46) (d_M_unitAt 34 rfl) (by decide) (fun q => absurd (of_decide_eq_true c_5) q) (fun _ => ?_)
      refine go_aload_n (d_M_unitAt 37 rfl) rfl rfl ?_
      refine go_getR (d_M_unitAt 38 rfl) fl_M_56 rfl rfl ?_
      show Go _ _ _ _ _ _ _ _ _ (.ref (ad (116)) :: []) _ _
      refine go_iload_n (d_M_unitAt 41 rfl) rfl rfl ?_
      obtain ⟨g_9, h⟩ := gd_some h
      refine go_iald (d_M_unitAt 42 rfl) rfl g_9 ?_
      refine go_goto (tgt := 66) (d_M_unitAt 43 rfl) (by decide) ?_
      exact go_iret (d_M_unitAt 66 rfl) rfl rfl (Option.some.inj h) (by decide) (by decide)
    · refine go_if_ne (tgt := 46) (d_M_unitAt 34 rfl) (by decide) (fun _ => ?_) (fun q => absurd q (of_decide_eq_false c_5))
      refine go_iload_n (d_M_unitAt 46 rfl) rfl rfl ?_
      refine go_iconst (x := (1 : Int32)) (d_M_unitAt 47 rfl) (by decide) ?_
      rcases br_some h with ⟨c_6, h⟩ | ⟨c_6, h⟩
      · refine go_icmp_ne (tgt := 60) (d_M_unitAt 48 rfl) (by decide) (fun q => absurd (of_decide_eq_true c_6) q) (fun _ => ?_)
        refine go_aload_n (d_M_unitAt 51 rfl) rfl rfl ?_
        refine go_getR (d_M_unitAt 52 rfl) fl_M_59 rfl rfl ?_
        show Go _ _ _ _ _ _ _ _ _ (.ref (ad (117)) :: []) _ _
        refine go_iload_n (d_M_unitAt 55 rfl) rfl rfl ?_
        obtain ⟨g_8, h⟩ := gd_some h
        refine go_iald (d_M_unitAt 56 rfl) rfl g_8 ?_
        refine go_goto (tgt := 66) (d_M_unitAt 57 rfl) (by decide) ?_
        exact go_iret (d_M_unitAt 66 rfl) rfl rfl (Option.some.inj h) (by decide) (by decide)
      · refine go_icmp_ne (tgt := 60) (d_M_unitAt 48 rfl) (by decide) (fun _ => ?_) (fun q => absurd q (of_decide_eq_false c_6))
        refine go_aload_n (d_M_unitAt 60 rfl) rfl rfl ?_
        refine go_getR (d_M_unitAt 61 rfl) fl_M_62 rfl rfl ?_
        show Go _ _ _ _ _ _ _ _ _ (.ref (ad (118)) :: []) _ _
        refine go_iload_n (d_M_unitAt 64 rfl) rfl rfl ?_
        obtain ⟨g_7, h⟩ := gd_some h
        refine go_iald (d_M_unitAt 65 rfl) rfl g_7 ?_
        exact go_iret (d_M_unitAt 66 rfl) rfl rfl (Option.some.inj h) (by decide) (by decide)
  · refine go_if_eq (tgt := 33) (d_M_unitAt 28 rfl) (by decide) (fun q => absurd q (of_decide_eq_false c_4)) (fun _ => ?_)
    refine go_iconst (x := (0 : Int32)) (d_M_unitAt 31 rfl) (by decide) ?_
    exact go_iret (d_M_unitAt 32 rfl) rfl rfl (Option.some.inj h) (by decide) (by decide)
def f_M_unitAt_18  (x1 : Int32) (x2 : Int32) (v : go_V) : Option go_R := f_M_unitAt_23  (x1) (x2) ((1 : Int32)) (v)
set_option maxHeartbeats 4000000 in
set_option maxRecDepth 100000 in
theorem b_M_unitAt_18 {l : Launch} {G : go_G} {ad : Nat → Nat} (hl : l.stackTraces = false) {r : go_R}  (x1 : Int32) (x2 : Int32) (v : go_V) (h : f_M_unitAt_18  x1 x2 v = some r) : Go l G M_M_unitAt go_Ex0 (go_E G ad 1 r 0 0) ad v [(0, .ref (ad (100))), (1, .int x1), (2, .int x2)] 18 [.ref (ad (100))] 0 0 := by
  unfold f_M_unitAt_18 at h
  refine go_iconst (x := (1 : Int32)) (d_M_unitAt 18 rfl) (by decide) ?_
  refine go_goto (tgt := 23) (d_M_unitAt 19 rfl) (by decide) ?_
  exact b_M_unitAt_23 hl  (x1) (x2) ((1 : Int32)) (v) h
def f_M_unitAt (x1 : Int32) (x2 : Int32) (v : go_V) : Option go_R := bd (f_M_isUnit x1 v) (fun r_1 => nt r_1 (br (decide (r_1.2.1 = 0)) (f_M_unitAt_18  (x1) (x2) (r_1.2.2.2)) (bd (f_M_in x2 (0 : Int32) (2 : Int32) r_1.2.2.2) (fun r_5 => nt r_5 (br (decide (r_5.2.1 = 0)) (f_M_unitAt_18  (x1) (x2) (r_5.2.2.2)) (f_M_unitAt_23  (x1) (x2) ((0 : Int32)) (r_5.2.2.2)))))))
set_option maxHeartbeats 4000000 in
set_option maxRecDepth 100000 in
theorem Ca_M_unitAt {l : Launch} {G : go_G} {ad : Nat → Nat} (hl : l.stackTraces = false) {r : go_R} {x1 : Int32} {x2 : Int32} {v : go_V} (h : f_M_unitAt x1 x2 v = some r) : Ca l G y_M_unitAt (.code y_M_unitAt c_M_unitAt 3 (some .int) :: go_TT) (rmD 2 0) 1 ad [.ref (ad (100)), .int x1, .int x2] v r := by
  unfold f_M_unitAt at h
  refine go_body (own := RM) (by decide) rfl (Nat.le_of_ble_eq_true rfl) ?_
  show Go l G M_M_unitAt go_Ex0 (go_E G ad 1 r 0 0) ad v [(0, .ref (ad (100))), (1, .int x1), (2, .int x2)] 0 [] 0 0
  refine go_aload_n (d_M_unitAt 0 rfl) rfl rfl ?_
  refine go_aload_n (d_M_unitAt 1 rfl) rfl rfl ?_
  refine go_iload_n (d_M_unitAt 2 rfl) rfl rfl ?_
  obtain ⟨r_1, o_2, h⟩ := bd_some h
  obtain ⟨z_3, h⟩ := nt_some h
  refine go_cV (As := [.int x1]) (rest := [.ref (ad (100))]) (st2 := [.int (r_1.2.1), .ref (ad (100))]) (c2 := 0) (s2 := 0) rfl rfl rfl rfl (Ca_M_isUnit hl o_2)  (d_M_unitAt 3 rfl) cw_M_133 ⟨w_729, w_27⟩ rfl (by decide) rfl ⟨by decide, by decide⟩ rfl (Nat.le_of_ble_eq_true rfl) ⟨by decide, by decide⟩ (fun _ => ?_) (fun q => absurd z_3 q)
  rcases br_some h with ⟨c_4, h⟩ | ⟨c_4, h⟩
  · refine go_if_eq (tgt := 18) (d_M_unitAt 6 rfl) (by decide) (fun _ => ?_) (fun q => absurd (of_decide_eq_true c_4) q)
    exact b_M_unitAt_18 hl  (x1) (x2) (r_1.2.2.2) h
  · refine go_if_eq (tgt := 18) (d_M_unitAt 6 rfl) (by decide) (fun q => absurd q (of_decide_eq_false c_4)) (fun _ => ?_)
    refine go_iload_n (d_M_unitAt 9 rfl) rfl rfl ?_
    refine go_iconst (x := (0 : Int32)) (d_M_unitAt 10 rfl) (by decide) ?_
    refine go_iconst (x := (2 : Int32)) (d_M_unitAt 11 rfl) (by decide) ?_
    obtain ⟨r_5, o_6, h⟩ := bd_some h
    obtain ⟨z_7, h⟩ := nt_some h
    refine go_cS (As := [.int x2, .int ((0 : Int32)), .int ((2 : Int32))]) (rest := [.ref (ad (100))]) (st2 := [.int (r_5.2.1), .ref (ad (100))]) (c2 := 0) (s2 := 0) rfl rfl rfl rfl (Ca_M_in hl o_6)  (d_M_unitAt 12 rfl) cw_M_73 w_639 ⟨by decide, by decide⟩ rfl (Nat.le_of_ble_eq_true rfl) ⟨by decide, by decide⟩ (fun _ => ?_) (fun q => absurd z_7 q)
    rcases br_some h with ⟨c_8, h⟩ | ⟨c_8, h⟩
    · refine go_if_ne (tgt := 22) (d_M_unitAt 15 rfl) (by decide) (fun q => absurd (of_decide_eq_true c_8) q) (fun _ => ?_)
      exact b_M_unitAt_18 hl  (x1) (x2) (r_5.2.2.2) h
    · refine go_if_ne (tgt := 22) (d_M_unitAt 15 rfl) (by decide) (fun _ => ?_) (fun q => absurd q (of_decide_eq_false c_8))
      refine go_iconst (x := (0 : Int32)) (d_M_unitAt 22 rfl) (by decide) ?_
      exact b_M_unitAt_23 hl  (x1) (x2) ((0 : Int32)) (r_5.2.2.2) h
abbrev M_M_acted : go_M := (c_M_acted, 2, (some .int), RM, [], rmD 1 0)
def f_M_acted_20  (x1 : Int32) (y1 : Int32) (v : go_V) : Option go_R := bd (f_M_throwing y1 (0 : Int32) (0 : Int32) v) (fun r_1 => nt r_1 (br (decide (r_1.2.1 = 0)) (gd (go_in x1 20) (some (0, (r_1.2.2.2 106 x1.toNatClampNeg), 0, r_1.2.2.2))) (some (0, (0 : Int32), 0, r_1.2.2.2))))
set_option maxHeartbeats 4000000 in
set_option maxRecDepth 100000 in
theorem b_M_acted_20 {l : Launch} {G : go_G} {ad : Nat → Nat} (hl : l.stackTraces = false) {r : go_R}  (x1 : Int32) (y1 : Int32) (v : go_V) (h : f_M_acted_20  x1 y1 v = some r) : Go l G M_M_acted go_Ex0 (go_E G ad 1 r 0 0) ad v [(0, .ref (ad (100))), (1, .int x1)] 20 [.int y1, .ref (ad (100))] 0 0 := by
  unfold f_M_acted_20 at h
  refine go_iconst (x := (0 : Int32)) (d_M_acted 20 rfl) (by decide) ?_
  refine go_iconst (x := (0 : Int32)) (d_M_acted 21 rfl) (by decide) ?_
  obtain ⟨r_1, o_2, h⟩ := bd_some h
  obtain ⟨z_3, h⟩ := nt_some h
  refine go_cV (As := [.int y1, .int ((0 : Int32)), .int ((0 : Int32))]) (rest := []) (st2 := [.int (r_1.2.1)]) (c2 := 0) (s2 := 0) rfl rfl rfl rfl (Ca_M_throwing hl o_2)  (d_M_acted 22 rfl) cw_M_84 ⟨w_643, w_18⟩ rfl (by decide) rfl ⟨by decide, by decide⟩ rfl (Nat.le_of_ble_eq_true rfl) ⟨by decide, by decide⟩ (fun _ => ?_) (fun q => absurd z_3 q)
  rcases br_some h with ⟨c_4, h⟩ | ⟨c_4, h⟩
  · refine go_if_eq (tgt := 30) (d_M_acted 25 rfl) (by decide) (fun _ => ?_) (fun q => absurd (of_decide_eq_true c_4) q)
    refine go_aload_n (d_M_acted 30 rfl) rfl rfl ?_
    refine go_getR (d_M_acted 31 rfl) fl_M_25 rfl rfl ?_
    show Go _ _ _ _ _ _ _ _ _ (.ref (ad (106)) :: []) _ _
    refine go_iload_n (d_M_acted 34 rfl) rfl rfl ?_
    obtain ⟨g_5, h⟩ := gd_some h
    refine go_iald (d_M_acted 35 rfl) rfl g_5 ?_
    exact go_iret (d_M_acted 36 rfl) rfl rfl (Option.some.inj h) (by decide) (by decide)
  · refine go_if_eq (tgt := 30) (d_M_acted 25 rfl) (by decide) (fun q => absurd q (of_decide_eq_false c_4)) (fun _ => ?_)
    refine go_iconst (x := (0 : Int32)) (d_M_acted 28 rfl) (by decide) ?_
    exact go_iret (d_M_acted 29 rfl) rfl rfl (Option.some.inj h) (by decide) (by decide)
def f_M_acted (x1 : Int32) (v : go_V) : Option go_R := bd (f_M_in x1 (0 : Int32) ((v 100 4) - (1 : Int32)) v) (fun r_1 => nt r_1 (br (decide (r_1.2.1 = 0)) (f_M_acted_20  (x1) ((1 : Int32)) (r_1.2.2.2)) (f_M_acted_20  (x1) ((0 : Int32)) (r_1.2.2.2))))
set_option maxHeartbeats 4000000 in
set_option maxRecDepth 100000 in
theorem Ca_M_acted {l : Launch} {G : go_G} {ad : Nat → Nat} (hl : l.stackTraces = false) {r : go_R} {x1 : Int32} {v : go_V} (h : f_M_acted x1 v = some r) : Ca l G y_M_acted (.code y_M_acted c_M_acted 2 (some .int) :: go_TT) (rmD 1 0) 1 ad [.ref (ad (100)), .int x1] v r := by
  unfold f_M_acted at h
  refine go_body (own := RM) (by decide) rfl (Nat.le_of_ble_eq_true rfl) ?_
  show Go l G M_M_acted go_Ex0 (go_E G ad 1 r 0 0) ad v [(0, .ref (ad (100))), (1, .int x1)] 0 [] 0 0
  refine go_aload_n (d_M_acted 0 rfl) rfl rfl ?_
  refine go_iload_n (d_M_acted 1 rfl) rfl rfl ?_
  refine go_iconst (x := (0 : Int32)) (d_M_acted 2 rfl) (by decide) ?_
  refine go_aload_n (d_M_acted 3 rfl) rfl rfl ?_
  refine go_getI (d_M_acted 4 rfl) fl_M_92 rfl rfl ?_
  refine go_iconst (x := (1 : Int32)) (d_M_acted 7 rfl) (by decide) ?_
  refine go_isub (d_M_acted 8 rfl) ?_
  obtain ⟨r_1, o_2, h⟩ := bd_some h
  obtain ⟨z_3, h⟩ := nt_some h
  refine go_cS (As := [.int x1, .int ((0 : Int32)), .int (((v 100 4) - (1 : Int32)))]) (rest := [.ref (ad (100))]) (st2 := [.int (r_1.2.1), .ref (ad (100))]) (c2 := 0) (s2 := 0) rfl rfl rfl rfl (Ca_M_in hl o_2)  (d_M_acted 9 rfl) cw_M_73 w_639 ⟨by decide, by decide⟩ rfl (Nat.le_of_ble_eq_true rfl) ⟨by decide, by decide⟩ (fun _ => ?_) (fun q => absurd z_3 q)
  rcases br_some h with ⟨c_4, h⟩ | ⟨c_4, h⟩
  · refine go_if_ne (tgt := 19) (d_M_acted 12 rfl) (by decide) (fun q => absurd (of_decide_eq_true c_4) q) (fun _ => ?_)
    refine go_iconst (x := (1 : Int32)) (d_M_acted 15 rfl) (by decide) ?_
    refine go_goto (tgt := 20) (d_M_acted 16 rfl) (by decide) ?_
    exact b_M_acted_20 hl  (x1) ((1 : Int32)) (r_1.2.2.2) h
  · refine go_if_ne (tgt := 19) (d_M_acted 12 rfl) (by decide) (fun _ => ?_) (fun q => absurd q (of_decide_eq_false c_4))
    refine go_iconst (x := (0 : Int32)) (d_M_acted 19 rfl) (by decide) ?_
    exact b_M_acted_20 hl  (x1) ((0 : Int32)) (r_1.2.2.2) h
abbrev M_M_count : go_M := (c_M_count, 2, (some .int), RM, [], rmD 1 0)
def f_M_count_15  (x1 : Int32) (y1 : Int32) (v : go_V) : Option go_R := bd (f_M_throwing y1 (0 : Int32) (0 : Int32) v) (fun r_1 => nt r_1 (br (decide (r_1.2.1 = 0)) (br (decide (x1 = 0)) (some (0, (r_1.2.2.2 100 1), 0, r_1.2.2.2)) (br (decide (x1 = (1 : Int32))) (some (0, (r_1.2.2.2 100 24), 0, r_1.2.2.2)) (br (decide (x1 = (2 : Int32))) (some (0, (r_1.2.2.2 100 25), 0, r_1.2.2.2)) (some (0, (r_1.2.2.2 100 26), 0, r_1.2.2.2))))) (some (0, (0 : Int32), 0, r_1.2.2.2))))
set_option maxHeartbeats 4000000 in
set_option maxRecDepth 100000 in
theorem b_M_count_15 {l : Launch} {G : go_G} {ad : Nat → Nat} (hl : l.stackTraces = false) {r : go_R}  (x1 : Int32) (y1 : Int32) (v : go_V) (h : f_M_count_15  x1 y1 v = some r) : Go l G M_M_count go_Ex0 (go_E G ad 1 r 0 0) ad v [(0, .ref (ad (100))), (1, .int x1)] 15 [.int y1, .ref (ad (100))] 0 0 := by
  unfold f_M_count_15 at h
  refine go_iconst (x := (0 : Int32)) (d_M_count 15 rfl) (by decide) ?_
  refine go_iconst (x := (0 : Int32)) (d_M_count 16 rfl) (by decide) ?_
  obtain ⟨r_1, o_2, h⟩ := bd_some h
  obtain ⟨z_3, h⟩ := nt_some h
  refine go_cV (As := [.int y1, .int ((0 : Int32)), .int ((0 : Int32))]) (rest := []) (st2 := [.int (r_1.2.1)]) (c2 := 0) (s2 := 0) rfl rfl rfl rfl (Ca_M_throwing hl o_2)  (d_M_count 17 rfl) cw_M_84 ⟨w_643, w_18⟩ rfl (by decide) rfl ⟨by decide, by decide⟩ rfl (Nat.le_of_ble_eq_true rfl) ⟨by decide, by decide⟩ (fun _ => ?_) (fun q => absurd z_3 q)
  rcases br_some h with ⟨c_4, h⟩ | ⟨c_4, h⟩
  · refine go_if_eq (tgt := 25) (d_M_count 20 rfl) (by decide) (fun _ => ?_) (fun q => absurd (of_decide_eq_true c_4) q)
    refine go_iload_n (d_M_count 25 rfl) rfl rfl ?_
    rcases br_some h with ⟨c_5, h⟩ | ⟨c_5, h⟩
    · refine go_if_ne (tgt := 36) (d_M_count 26 rfl) (by decide) (fun q => absurd (of_decide_eq_true c_5) q) (fun _ => ?_)
      refine go_aload_n (d_M_count 29 rfl) rfl rfl ?_
      refine go_getI (d_M_count 30 rfl) fl_M_95 rfl rfl ?_
      refine go_goto (tgt := 64) (d_M_count 33 rfl) (by decide) ?_
      exact go_iret (d_M_count 64 rfl) rfl rfl (Option.some.inj h) (by decide) (by decide)
    · refine go_if_ne (tgt := 36) (d_M_count 26 rfl) (by decide) (fun _ => ?_) (fun q => absurd q (of_decide_eq_false c_5))
      refine go_iload_n (d_M_count 36 rfl) rfl rfl ?_
      refine go_iconst (x := (1 : Int32)) (d_M_count 37 rfl) (by decide) ?_
      rcases br_some h with ⟨c_6, h⟩ | ⟨c_6, h⟩
      · refine go_icmp_ne (tgt := 48) (d_M_count 38 rfl) (by decide) (fun q => absurd (of_decide_eq_true c_6) q) (fun _ => ?_)
        refine go_aload_n (d_M_count 41 rfl) rfl rfl ?_
        refine go_getI (d_M_count 42 rfl) fl_M_121 rfl rfl ?_
        refine go_goto (tgt := 64) (d_M_count 45 rfl) (by decide) ?_
        exact go_iret (d_M_count 64 rfl) rfl rfl (Option.some.inj h) (by decide) (by decide)
      · refine go_icmp_ne (tgt := 48) (d_M_count 38 rfl) (by decide) (fun _ => ?_) (fun q => absurd q (of_decide_eq_false c_6))
        refine go_iload_n (d_M_count 48 rfl) rfl rfl ?_
        refine go_iconst (x := (2 : Int32)) (d_M_count 49 rfl) (by decide) ?_
        rcases br_some h with ⟨c_7, h⟩ | ⟨c_7, h⟩
        · refine go_icmp_ne (tgt := 60) (d_M_count 50 rfl) (by decide) (fun q => absurd (of_decide_eq_true c_7) q) (fun _ => ?_)
          refine go_aload_n (d_M_count 53 rfl) rfl rfl ?_
          refine go_getI (d_M_count 54 rfl) fl_M_130 rfl rfl ?_
          refine go_goto (tgt := 64) (d_M_count 57 rfl) (by decide) ?_
          exact go_iret (d_M_count 64 rfl) rfl rfl (Option.some.inj h) (by decide) (by decide)
        · refine go_icmp_ne (tgt := 60) (d_M_count 50 rfl) (by decide) (fun _ => ?_) (fun q => absurd q (of_decide_eq_false c_7))
          refine go_aload_n (d_M_count 60 rfl) rfl rfl ?_
          refine go_getI (d_M_count 61 rfl) fl_M_109 rfl rfl ?_
          exact go_iret (d_M_count 64 rfl) rfl rfl (Option.some.inj h) (by decide) (by decide)
  · refine go_if_eq (tgt := 25) (d_M_count 20 rfl) (by decide) (fun q => absurd q (of_decide_eq_false c_4)) (fun _ => ?_)
    refine go_iconst (x := (0 : Int32)) (d_M_count 23 rfl) (by decide) ?_
    exact go_iret (d_M_count 24 rfl) rfl rfl (Option.some.inj h) (by decide) (by decide)
def f_M_count (x1 : Int32) (v : go_V) : Option go_R := bd (f_M_in x1 (0 : Int32) (3 : Int32) v) (fun r_1 => nt r_1 (br (decide (r_1.2.1 = 0)) (f_M_count_15  (x1) ((1 : Int32)) (r_1.2.2.2)) (f_M_count_15  (x1) ((0 : Int32)) (r_1.2.2.2))))
set_option maxHeartbeats 4000000 in
set_option maxRecDepth 100000 in
theorem Ca_M_count {l : Launch} {G : go_G} {ad : Nat → Nat} (hl : l.stackTraces = false) {r : go_R} {x1 : Int32} {v : go_V} (h : f_M_count x1 v = some r) : Ca l G y_M_count (.code y_M_count c_M_count 2 (some .int) :: go_TT) (rmD 1 0) 1 ad [.ref (ad (100)), .int x1] v r := by
  unfold f_M_count at h
  refine go_body (own := RM) (by decide) rfl (Nat.le_of_ble_eq_true rfl) ?_
  show Go l G M_M_count go_Ex0 (go_E G ad 1 r 0 0) ad v [(0, .ref (ad (100))), (1, .int x1)] 0 [] 0 0
  refine go_aload_n (d_M_count 0 rfl) rfl rfl ?_
  refine go_iload_n (d_M_count 1 rfl) rfl rfl ?_
  refine go_iconst (x := (0 : Int32)) (d_M_count 2 rfl) (by decide) ?_
  refine go_iconst (x := (3 : Int32)) (d_M_count 3 rfl) (by decide) ?_
  obtain ⟨r_1, o_2, h⟩ := bd_some h
  obtain ⟨z_3, h⟩ := nt_some h
  refine go_cS (As := [.int x1, .int ((0 : Int32)), .int ((3 : Int32))]) (rest := [.ref (ad (100))]) (st2 := [.int (r_1.2.1), .ref (ad (100))]) (c2 := 0) (s2 := 0) rfl rfl rfl rfl (Ca_M_in hl o_2)  (d_M_count 4 rfl) cw_M_73 w_639 ⟨by decide, by decide⟩ rfl (Nat.le_of_ble_eq_true rfl) ⟨by decide, by decide⟩ (fun _ => ?_) (fun q => absurd z_3 q)
  rcases br_some h with ⟨c_4, h⟩ | ⟨c_4, h⟩
  · refine go_if_ne (tgt := 14) (d_M_count 7 rfl) (by decide) (fun q => absurd (of_decide_eq_true c_4) q) (fun _ => ?_)
    refine go_iconst (x := (1 : Int32)) (d_M_count 10 rfl) (by decide) ?_
    refine go_goto (tgt := 15) (d_M_count 11 rfl) (by decide) ?_
    exact b_M_count_15 hl  (x1) ((1 : Int32)) (r_1.2.2.2) h
  · refine go_if_ne (tgt := 14) (d_M_count 7 rfl) (by decide) (fun _ => ?_) (fun q => absurd q (of_decide_eq_false c_4))
    refine go_iconst (x := (0 : Int32)) (d_M_count 14 rfl) (by decide) ?_
    exact b_M_count_15 hl  (x1) ((0 : Int32)) (r_1.2.2.2) h
