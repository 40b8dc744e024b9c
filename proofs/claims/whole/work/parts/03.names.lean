/-! NAMES, by program (wip/whole/names.py) -/
def go_fd : List (Nat × Instr × Nat) → Nat → Option (Instr × Nat)
  | [], _ => none
  | (j, w) :: r, i => match Nat.beq j i with
    | true => some w
    | false => go_fd r i
theorem go_fd_ok {cc : ByteArray} {tab : List (Nat × Instr × Nat)} (h : tab.all (fun q => decide (decode cc q.1 = .ok q.2)) = true) {i : Nat} {w : Instr × Nat} (e : go_fd tab i = some w) : decode cc i = .ok w := by
  induction tab with
  | nil => cases e
  | cons q r ih =>
    obtain ⟨j, z⟩ := q
    rw [List.all_cons, Bool.and_eq_true] at h
    simp only [go_fd] at e
    cases hb : Nat.beq j i with
    | true =>
      rw [hb] at e
      have ej := Nat.eq_of_beq_eq_true hb
      subst ej
      cases e
      exact of_decide_eq_true h.1
    | false =>
      rw [hb] at e
      exact ih h.2 e
def RI : String := "SecondWaves$Incident"
def TI : u_T := fun k => match k with
  | 0 => ("SecondWaves$Incident", "open", "Z", false)
  | 1 => ("SecondWaves$Incident", "step", "I", false)
  | 2 => ("SecondWaves$Incident", "hurt", "I", false)
  | 3 => ("SecondWaves$Incident", "latestRow", "I", false)
  | 4 => ("SecondWaves$Incident", "timesActed", "I", false)
  | 5 => ("SecondWaves$Incident", "timesUp", "I", false)
  | 6 => ("SecondWaves$Incident", "timesDown", "I", false)
  | _ => ("SecondWaves$Incident", "actedAt", "[I", true)
def tyI : Nat → FieldType := fun k => match k with
  | 0 => .boolean
  | 1 => .int
  | 2 => .int
  | 3 => .int
  | 4 => .int
  | 5 => .int
  | 6 => .int
  | _ => (.array .int)
abbrev wf_I : List Cond := u_ws RI TI 8
theorem nmI : ∀ a, a < 8 → ∀ b, b < 8 → a ≠ b → (TI a).2.1 ≠ (TI b).2.1 := by decide +kernel
theorem tyokI : ∀ k, k < 8 → parseFieldDescriptor (TI k).2.2.1 = some (tyI k) := by decide +kernel
def RT : String := "SecondWaves$Trigger"
def TT : u_T := fun k => match k with
  | 0 => ("SecondWaves$Trigger", "kind", "I", false)
  | 1 => ("SecondWaves$Trigger", "what", "I", false)
  | 2 => ("SecondWaves$Trigger", "step", "I", false)
  | 3 => ("SecondWaves$Trigger", "span", "I", false)
  | _ => ("SecondWaves$Trigger", "timesActed", "I", false)
def tyT : Nat → FieldType := fun k => match k with
  | 0 => .int
  | 1 => .int
  | 2 => .int
  | 3 => .int
  | _ => .int
abbrev wf_T : List Cond := u_ws RT TT 5
theorem nmT : ∀ a, a < 5 → ∀ b, b < 5 → a ≠ b → (TT a).2.1 ≠ (TT b).2.1 := by decide +kernel
theorem tyokT : ∀ k, k < 5 → parseFieldDescriptor (TT k).2.2.1 = some (tyT k) := by decide +kernel
def RU : String := "SecondWaves$Unit"
def TU : u_T := fun k => match k with
  | 0 => ("SecondWaves$Unit", "skill", "I", false)
  | 1 => ("SecondWaves$Unit", "doing", "I", false)
  | 2 => ("SecondWaves$Unit", "incident", "I", false)
  | _ => ("SecondWaves$Unit", "distance", "I", false)
def tyU : Nat → FieldType := fun k => match k with
  | 0 => .int
  | 1 => .int
  | 2 => .int
  | _ => .int
abbrev wf_U : List Cond := u_ws RU TU 4
theorem nmU : ∀ a, a < 4 → ∀ b, b < 4 → a ≠ b → (TU a).2.1 ≠ (TU b).2.1 := by decide +kernel
theorem tyokU : ∀ k, k < 4 → parseFieldDescriptor (TU k).2.2.1 = some (tyU k) := by decide +kernel
def RS : String := "SecondWaves"
def TS : u_T := fun k => match k with
  | 0 => ("SecondWaves", "rows", "[[I", true)
  | 1 => ("SecondWaves", "topStep", "I", false)
  | 2 => ("SecondWaves", "now", "I", false)
  | 3 => ("SecondWaves", "triggers", "[LSecondWaves$Trigger;", true)
  | 4 => ("SecondWaves", "triggerCount", "I", false)
  | 5 => ("SecondWaves", "silences", "[I", true)
  | 6 => ("SecondWaves", "silenceCount", "I", false)
  | 7 => ("SecondWaves", "incidents", "[LSecondWaves$Incident;", true)
  | 8 => ("SecondWaves", "incidentCount", "I", false)
  | 9 => ("SecondWaves", "units", "[LSecondWaves$Unit;", true)
  | 10 => ("SecondWaves", "unitCount", "I", false)
  | 11 => ("SecondWaves", "wordsOfNoTrigger", "I", false)
  | 12 => ("SecondWaves", "unitsRecalled", "I", false)
  | _ => ("SecondWaves", "actedWithoutRise", "I", false)
def tyS : Nat → FieldType := fun k => match k with
  | 0 => (.array (.array .int))
  | 1 => .int
  | 2 => .int
  | 3 => (.array (.object "SecondWaves$Trigger"))
  | 4 => .int
  | 5 => (.array .int)
  | 6 => .int
  | 7 => (.array (.object "SecondWaves$Incident"))
  | 8 => .int
  | 9 => (.array (.object "SecondWaves$Unit"))
  | 10 => .int
  | 11 => .int
  | 12 => .int
  | _ => .int
abbrev wf_S : List Cond := u_ws RS TS 14
theorem nmS : ∀ a, a < 14 → ∀ b, b < 14 → a ≠ b → (TS a).2.1 ≠ (TS b).2.1 := by decide +kernel
theorem tyokS : ∀ k, k < 14 → parseFieldDescriptor (TS k).2.2.1 = some (tyS k) := by decide +kernel
def RM : String := "SecondWavesModel"
def TM : u_T := fun k => match k with
  | 0 => ("SecondWavesModel", "thrown", "I", false)
  | 1 => ("SecondWavesModel", "now", "I", false)
  | 2 => ("SecondWavesModel", "top", "I", false)
  | 3 => ("SecondWavesModel", "rows", "[I", true)
  | 4 => ("SecondWavesModel", "triggers", "I", false)
  | 5 => ("SecondWavesModel", "kind", "[I", true)
  | 6 => ("SecondWavesModel", "what", "[I", true)
  | 7 => ("SecondWavesModel", "to", "[I", true)
  | 8 => ("SecondWavesModel", "span", "[I", true)
  | 9 => ("SecondWavesModel", "acts", "[I", true)
  | 10 => ("SecondWavesModel", "incidents", "I", false)
  | 11 => ("SecondWavesModel", "open", "[Z", true)
  | 12 => ("SecondWavesModel", "step", "[I", true)
  | 13 => ("SecondWavesModel", "hurt", "[I", true)
  | 14 => ("SecondWavesModel", "told", "[I", true)
  | 15 => ("SecondWavesModel", "actedAt", "[I", true)
  | 16 => ("SecondWavesModel", "ups", "[I", true)
  | 17 => ("SecondWavesModel", "downs", "[I", true)
  | 18 => ("SecondWavesModel", "last", "[I", true)
  | 19 => ("SecondWavesModel", "units", "I", false)
  | 20 => ("SecondWavesModel", "skill", "[I", true)
  | 21 => ("SecondWavesModel", "does", "[I", true)
  | 22 => ("SecondWavesModel", "at", "[I", true)
  | 23 => ("SecondWavesModel", "distance", "[I", true)
  | 24 => ("SecondWavesModel", "words", "I", false)
  | 25 => ("SecondWavesModel", "recalled", "I", false)
  | _ => ("SecondWavesModel", "idle", "I", false)
def tyM : Nat → FieldType := fun k => match k with
  | 0 => .int
  | 1 => .int
  | 2 => .int
  | 3 => (.array .int)
  | 4 => .int
  | 5 => (.array .int)
  | 6 => (.array .int)
  | 7 => (.array .int)
  | 8 => (.array .int)
  | 9 => (.array .int)
  | 10 => .int
  | 11 => (.array .boolean)
  | 12 => (.array .int)
  | 13 => (.array .int)
  | 14 => (.array .int)
  | 15 => (.array .int)
  | 16 => (.array .int)
  | 17 => (.array .int)
  | 18 => (.array .int)
  | 19 => .int
  | 20 => (.array .int)
  | 21 => (.array .int)
  | 22 => (.array .int)
  | 23 => (.array .int)
  | 24 => .int
  | 25 => .int
  | _ => .int
abbrev wf_M : List Cond := u_ws RM TM 27
theorem nmM : ∀ a, a < 27 → ∀ b, b < 27 → a ≠ b → (TM a).2.1 ≠ (TM b).2.1 := by decide +kernel
theorem tyokM : ∀ k, k < 27 → parseFieldDescriptor (TM k).2.2.1 = some (tyM k) := by decide +kernel
def RL : String := "SecondWavesLaw"
abbrev go_cl : List vw_C := [(RI, TI, 8), (RT, TT, 5), (RU, TU, 4), (RS, TS, 14), (RM, TM, 27)]
abbrev c_I_init : ByteArray := prog_2_method_1_code
def y_I_init : MethodName := ⟨RI, "<init>", "()V"⟩
def t_I_init : List (Nat × Instr × Nat) := [(0, .aload_n 0, 1), (1, .invokespecial 3, 3), (4, .aload_n 0, 1), (5, .bipush 20, 2), (7, .newarray .int, 2), (9, .putfield 9, 3), (12, .iconst 0, 1), (13, .istore_n 1, 1), (14, .iload_n 1, 1), (15, .bipush 20, 2), (17, .if_icmp .ge 16, 3), (20, .aload_n 0, 1), (21, .getfield 9, 3), (24, .iload_n 1, 1), (25, .iconst (-1), 1), (26, .iastore, 1), (27, .iinc 1 1, 3), (30, .goto (-16), 3), (33, .return_, 1)]
theorem d_I_init (i : Nat) {w : Instr × Nat} (e : go_fd t_I_init i = some w) : decode c_I_init i = .ok w := go_fd_ok (tab := t_I_init) (by decide +kernel) e
abbrev c_T_init : ByteArray := prog_3_method_1_code
def y_T_init : MethodName := ⟨RT, "<init>", "()V"⟩
def t_T_init : List (Nat × Instr × Nat) := [(0, .aload_n 0, 1), (1, .invokespecial 1, 3), (4, .return_, 1)]
theorem d_T_init (i : Nat) {w : Instr × Nat} (e : go_fd t_T_init i = some w) : decode c_T_init i = .ok w := go_fd_ok (tab := t_T_init) (by decide +kernel) e
abbrev c_T_set : ByteArray := prog_3_method_2_code
def y_T_set : MethodName := ⟨RT, "set", "(IIII)V"⟩
def t_T_set : List (Nat × Instr × Nat) := [(0, .aload_n 0, 1), (1, .iload_n 1, 1), (2, .putfield 7, 3), (5, .aload_n 0, 1), (6, .iload_n 2, 1), (7, .putfield 13, 3), (10, .aload_n 0, 1), (11, .iload_n 3, 1), (12, .putfield 16, 3), (15, .aload_n 0, 1), (16, .iload 4, 2), (18, .putfield 19, 3), (21, .return_, 1)]
theorem d_T_set (i : Nat) {w : Instr × Nat} (e : go_fd t_T_set i = some w) : decode c_T_set i = .ok w := go_fd_ok (tab := t_T_set) (by decide +kernel) e
abbrev c_T_isFor : ByteArray := prog_3_method_3_code
def y_T_isFor : MethodName := ⟨RT, "isFor", "(III)Z"⟩
def t_T_isFor : List (Nat × Instr × Nat) := [(0, .aload_n 0, 1), (1, .getfield 7, 3), (4, .iload_n 1, 1), (5, .if_icmp .ne 23, 3), (8, .aload_n 0, 1), (9, .getfield 13, 3), (12, .iload_n 2, 1), (13, .if_icmp .lt 15, 3), (16, .aload_n 0, 1), (17, .getfield 13, 3), (20, .iload_n 3, 1), (21, .if_icmp .gt 7, 3), (24, .iconst 1, 1), (25, .goto 4, 3), (28, .iconst 0, 1), (29, .ireturn, 1)]
theorem d_T_isFor (i : Nat) {w : Instr × Nat} (e : go_fd t_T_isFor i = some w) : decode c_T_isFor i = .ok w := go_fd_ok (tab := t_T_isFor) (by decide +kernel) e
abbrev c_U_init : ByteArray := prog_4_method_1_code
def y_U_init : MethodName := ⟨RU, "<init>", "()V"⟩
def t_U_init : List (Nat × Instr × Nat) := [(0, .aload_n 0, 1), (1, .invokespecial 3, 3), (4, .aload_n 0, 1), (5, .iconst 0, 1), (6, .putfield 9, 3), (9, .aload_n 0, 1), (10, .iconst (-1), 1), (11, .putfield 15, 3), (14, .aload_n 0, 1), (15, .iconst (-1), 1), (16, .putfield 18, 3), (19, .return_, 1)]
theorem d_U_init (i : Nat) {w : Instr × Nat} (e : go_fd t_U_init i = some w) : decode c_U_init i = .ok w := go_fd_ok (tab := t_U_init) (by decide +kernel) e
abbrev c_U_setFree : ByteArray := prog_4_method_2_code
def y_U_setFree : MethodName := ⟨RU, "setFree", "()V"⟩
def t_U_setFree : List (Nat × Instr × Nat) := [(0, .aload_n 0, 1), (1, .iconst 0, 1), (2, .putfield 9, 3), (5, .aload_n 0, 1), (6, .iconst (-1), 1), (7, .putfield 15, 3), (10, .aload_n 0, 1), (11, .iconst (-1), 1), (12, .putfield 18, 3), (15, .return_, 1)]
theorem d_U_setFree (i : Nat) {w : Instr × Nat} (e : go_fd t_U_setFree i = some w) : decode c_U_setFree i = .ok w := go_fd_ok (tab := t_U_setFree) (by decide +kernel) e
abbrev c_U_isFor : ByteArray := prog_4_method_3_code
def y_U_isFor : MethodName := ⟨RU, "isFor", "(II)Z"⟩
def t_U_isFor : List (Nat × Instr × Nat) := [(0, .aload_n 0, 1), (1, .getfield 15, 3), (4, .iload_n 1, 1), (5, .if_icmp .ne 15, 3), (8, .aload_n 0, 1), (9, .getfield 21, 3), (12, .iload_n 2, 1), (13, .if_icmp .ne 7, 3), (16, .iconst 1, 1), (17, .goto 4, 3), (20, .iconst 0, 1), (21, .ireturn, 1)]
theorem d_U_isFor (i : Nat) {w : Instr × Nat} (e : go_fd t_U_isFor i = some w) : decode c_U_isFor i = .ok w := go_fd_ok (tab := t_U_isFor) (by decide +kernel) e
abbrev c_U_goesBackBefore : ByteArray := prog_4_method_4_code
def y_U_goesBackBefore : MethodName := ⟨RU, "goesBackBefore", "(LSecondWaves$Unit;)Z"⟩
def t_U_goesBackBefore : List (Nat × Instr × Nat) := [(0, .aload_n 0, 1), (1, .getfield 9, 3), (4, .aload_n 1, 1), (5, .getfield 9, 3), (8, .if_icmp .eq 17, 3), (11, .aload_n 0, 1), (12, .getfield 9, 3), (15, .iconst 1, 1), (16, .if_icmp .ne 7, 3), (19, .iconst 1, 1), (20, .goto 4, 3), (23, .iconst 0, 1), (24, .ireturn, 1), (25, .aload_n 0, 1), (26, .getfield 18, 3), (29, .aload_n 1, 1), (30, .getfield 18, 3), (33, .if_icmp .lt 7, 3), (36, .iconst 1, 1), (37, .goto 4, 3), (40, .iconst 0, 1), (41, .ireturn, 1)]
theorem d_U_goesBackBefore (i : Nat) {w : Instr × Nat} (e : go_fd t_U_goesBackBefore i = some w) : decode c_U_goesBackBefore i = .ok w := go_fd_ok (tab := t_U_goesBackBefore) (by decide +kernel) e
abbrev c_S_init : ByteArray := prog_1_method_1_code
def y_S_init : MethodName := ⟨RS, "<init>", "()V"⟩
def t_S_init : List (Nat × Instr × Nat) := [(0, .aload_n 0, 1), (1, .invokespecial 1, 3), (4, .aload_n 0, 1), (5, .bipush 10, 2), (7, .bipush 8, 2), (9, .multianewarray 9 2, 4), (13, .putfield 11, 3), (16, .aload_n 0, 1), (17, .bipush 20, 2), (19, .anewarray 14, 3), (22, .putfield 16, 3), (25, .aload_n 0, 1), (26, .bipush 20, 2), (28, .newarray .int, 2), (30, .putfield 20, 3), (33, .aload_n 0, 1), (34, .bipush 12, 2), (36, .anewarray 24, 3), (39, .putfield 26, 3), (42, .aload_n 0, 1), (43, .bipush 40, 2), (45, .anewarray 30, 3), (48, .putfield 32, 3), (51, .iconst 0, 1), (52, .istore_n 1, 1), (53, .iload_n 1, 1), (54, .bipush 20, 2), (56, .if_icmp .ge 22, 3), (59, .aload_n 0, 1), (60, .getfield 16, 3), (63, .iload_n 1, 1), (64, .new 14, 3), (67, .dup, 1), (68, .invokespecial 36, 3), (71, .aastore, 1), (72, .iinc 1 1, 3), (75, .goto (-22), 3), (78, .iconst 0, 1), (79, .istore_n 1, 1), (80, .iload_n 1, 1), (81, .bipush 12, 2), (83, .if_icmp .ge 22, 3), (86, .aload_n 0, 1), (87, .getfield 26, 3), (90, .iload_n 1, 1), (91, .new 24, 3), (94, .dup, 1), (95, .invokespecial 37, 3), (98, .aastore, 1), (99, .iinc 1 1, 3), (102, .goto (-22), 3), (105, .iconst 0, 1), (106, .istore_n 1, 1), (107, .iload_n 1, 1), (108, .bipush 40, 2), (110, .if_icmp .ge 22, 3), (113, .aload_n 0, 1), (114, .getfield 32, 3), (117, .iload_n 1, 1), (118, .new 30, 3), (121, .dup, 1), (122, .invokespecial 38, 3), (125, .aastore, 1), (126, .iinc 1 1, 3), (129, .goto (-22), 3), (132, .return_, 1)]
theorem d_S_init (i : Nat) {w : Instr × Nat} (e : go_fd t_S_init i = some w) : decode c_S_init i = .ok w := go_fd_ok (tab := t_S_init) (by decide +kernel) e
abbrev c_S_row : ByteArray := prog_1_method_2_code
def y_S_row : MethodName := ⟨RS, "row", "(III)V"⟩
def t_S_row : List (Nat × Instr × Nat) := [(0, .iload_n 1, 1), (1, .invokestatic 39, 3), (4, .iload_n 2, 1), (5, .invokestatic 43, 3), (8, .iload_n 3, 1), (9, .iconst 0, 1), (10, .bipush 30, 2), (12, .invokestatic 46, 3), (15, .aload_n 0, 1), (16, .getfield 11, 3), (19, .iload_n 1, 1), (20, .aaload, 1), (21, .iload_n 2, 1), (22, .iload_n 3, 1), (23, .iastore, 1), (24, .return_, 1)]
theorem d_S_row (i : Nat) {w : Instr × Nat} (e : go_fd t_S_row i = some w) : decode c_S_row i = .ok w := go_fd_ok (tab := t_S_row) (by decide +kernel) e
abbrev c_S_top : ByteArray := prog_1_method_3_code
def y_S_top : MethodName := ⟨RS, "top", "(I)V"⟩
def t_S_top : List (Nat × Instr × Nat) := [(0, .iload_n 1, 1), (1, .invokestatic 39, 3), (4, .aload_n 0, 1), (5, .iload_n 1, 1), (6, .invokevirtual 50, 3), (9, .ifCond .eq 13, 3), (12, .new 54, 3), (15, .dup, 1), (16, .ldc 56, 2), (18, .invokespecial 58, 3), (21, .athrow, 1), (22, .aload_n 0, 1), (23, .iload_n 1, 1), (24, .putfield 61, 3), (27, .return_, 1)]
theorem d_S_top (i : Nat) {w : Instr × Nat} (e : go_fd t_S_top i = some w) : decode c_S_top i = .ok w := go_fd_ok (tab := t_S_top) (by decide +kernel) e
abbrev c_S_trigger : ByteArray := prog_1_method_4_code
def y_S_trigger : MethodName := ⟨RS, "trigger", "(IIII)I"⟩
def t_S_trigger : List (Nat × Instr × Nat) := [(0, .iload_n 1, 1), (1, .ifCond .lt 8, 3), (4, .iload_n 1, 1), (5, .iconst 4, 1), (6, .if_icmp .lt 13, 3), (9, .new 65, 3), (12, .dup, 1), (13, .ldc 67, 2), (15, .invokespecial 69, 3), (18, .athrow, 1), (19, .iload_n 3, 1), (20, .invokestatic 39, 3), (23, .iload_n 2, 1), (24, .getstatic 70, 3), (27, .iload_n 1, 1), (28, .iaload, 1), (29, .getstatic 73, 3), (32, .iload_n 1, 1), (33, .iaload, 1), (34, .invokestatic 46, 3), (37, .iload 4, 2), (39, .iconst 0, 1), (40, .ldc 76, 2), (42, .invokestatic 46, 3), (45, .aload_n 0, 1), (46, .getfield 77, 3), (49, .bipush 20, 2), (51, .if_icmp .lt 13, 3), (54, .new 80, 3), (57, .dup, 1), (58, .ldc 82, 2), (60, .invokespecial 84, 3), (63, .athrow, 1), (64, .aload_n 0, 1), (65, .getfield 77, 3), (68, .istore 5, 2), (70, .aload_n 0, 1), (71, .dup, 1), (72, .getfield 77, 3), (75, .iconst 1, 1), (76, .iadd, 1), (77, .putfield 77, 3), (80, .aload_n 0, 1), (81, .getfield 16, 3), (84, .iload 5, 2), (86, .aaload, 1), (87, .iload_n 1, 1), (88, .iload_n 2, 1), (89, .iload_n 3, 1), (90, .iload 4, 2), (92, .invokevirtual 85, 3), (95, .iload_n 1, 1), (96, .iconst 2, 1), (97, .if_icmp .ne 9, 3), (100, .aload_n 0, 1), (101, .iload 5, 2), (103, .invokevirtual 89, 3), (106, .iload 5, 2), (108, .ireturn, 1)]
theorem d_S_trigger (i : Nat) {w : Instr × Nat} (e : go_fd t_S_trigger i = some w) : decode c_S_trigger i = .ok w := go_fd_ok (tab := t_S_trigger) (by decide +kernel) e
abbrev c_S_begin : ByteArray := prog_1_method_5_code
def y_S_begin : MethodName := ⟨RS, "begin", "()I"⟩
def t_S_begin : List (Nat × Instr × Nat) := [(0, .aload_n 0, 1), (1, .getfield 92, 3), (4, .bipush 12, 2), (6, .if_icmp .lt 13, 3), (9, .new 80, 3), (12, .dup, 1), (13, .ldc 95, 2), (15, .invokespecial 84, 3), (18, .athrow, 1), (19, .aload_n 0, 1), (20, .getfield 92, 3), (23, .istore_n 1, 1), (24, .aload_n 0, 1), (25, .dup, 1), (26, .getfield 92, 3), (29, .iconst 1, 1), (30, .iadd, 1), (31, .putfield 92, 3), (34, .aload_n 0, 1), (35, .getfield 26, 3), (38, .iload_n 1, 1), (39, .aaload, 1), (40, .iconst 1, 1), (41, .putfield 97, 3), (44, .aload_n 0, 1), (45, .getfield 26, 3), (48, .iload_n 1, 1), (49, .aaload, 1), (50, .aload_n 0, 1), (51, .getfield 101, 3), (54, .putfield 104, 3), (57, .iload_n 1, 1), (58, .ireturn, 1)]
theorem d_S_begin (i : Nat) {w : Instr × Nat} (e : go_fd t_S_begin i = some w) : decode c_S_begin i = .ok w := go_fd_ok (tab := t_S_begin) (by decide +kernel) e
abbrev c_S_close : ByteArray := prog_1_method_6_code
def y_S_close : MethodName := ⟨RS, "close", "(I)V"⟩
def t_S_close : List (Nat × Instr × Nat) := [(0, .aload_n 0, 1), (1, .iload_n 1, 1), (2, .invokevirtual 107, 3), (5, .astore_n 2, 1), (6, .aload_n 2, 1), (7, .invokestatic 111, 3), (10, .aload_n 2, 1), (11, .iconst 0, 1), (12, .putfield 97, 3), (15, .iconst 0, 1), (16, .istore_n 3, 1), (17, .iload_n 3, 1), (18, .aload_n 0, 1), (19, .getfield 115, 3), (22, .if_icmp .ge 31, 3), (25, .aload_n 0, 1), (26, .getfield 32, 3), (29, .iload_n 3, 1), (30, .aaload, 1), (31, .getfield 118, 3), (34, .iload_n 1, 1), (35, .if_icmp .ne 12, 3), (38, .aload_n 0, 1), (39, .getfield 32, 3), (42, .iload_n 3, 1), (43, .aaload, 1), (44, .invokevirtual 121, 3), (47, .iinc 3 1, 3), (50, .goto (-33), 3), (53, .return_, 1)]
theorem d_S_close (i : Nat) {w : Instr × Nat} (e : go_fd t_S_close i = some w) : decode c_S_close i = .ok w := go_fd_ok (tab := t_S_close) (by decide +kernel) e
abbrev c_S_tick : ByteArray := prog_1_method_7_code
def y_S_tick : MethodName := ⟨RS, "tick", "(I)I"⟩
def t_S_tick : List (Nat × Instr × Nat) := [(0, .iload_n 1, 1), (1, .iconst 1, 1), (2, .sipush 5000, 3), (5, .invokestatic 46, 3), (8, .aload_n 0, 1), (9, .getfield 101, 3), (12, .iload_n 1, 1), (13, .iadd, 1), (14, .iconst 0, 1), (15, .ldc 124, 2), (17, .invokestatic 46, 3), (20, .aload_n 0, 1), (21, .getfield 101, 3), (24, .iload_n 1, 1), (25, .iadd, 1), (26, .istore_n 2, 1), (27, .iconst 0, 1), (28, .istore_n 3, 1), (29, .iconst 0, 1), (30, .istore 4, 2), (32, .iload 4, 2), (34, .aload_n 0, 1), (35, .getfield 92, 3), (38, .if_icmp .ge 37, 3), (41, .aload_n 0, 1), (42, .getfield 26, 3), (45, .iload 4, 2), (47, .aaload, 1), (48, .getfield 97, 3), (51, .ifCond .eq 18, 3), (54, .iload_n 3, 1), (55, .aload_n 0, 1), (56, .aload_n 0, 1), (57, .getfield 26, 3), (60, .iload 4, 2), (62, .aaload, 1), (63, .iload_n 2, 1), (64, .invokevirtual 125, 3), (67, .iadd, 1), (68, .istore_n 3, 1), (69, .iinc 4 1, 3), (72, .goto (-40), 3), (75, .aload_n 0, 1), (76, .iload_n 2, 1), (77, .putfield 101, 3), (80, .iload_n 3, 1), (81, .ireturn, 1)]
theorem d_S_tick (i : Nat) {w : Instr × Nat} (e : go_fd t_S_tick i = some w) : decode c_S_tick i = .ok w := go_fd_ok (tab := t_S_tick) (by decide +kernel) e
abbrev c_S_word : ByteArray := prog_1_method_8_code
def y_S_word : MethodName := ⟨RS, "word", "(II)I"⟩
def t_S_word : List (Nat × Instr × Nat) := [(0, .aload_n 0, 1), (1, .iload_n 1, 1), (2, .invokevirtual 107, 3), (5, .astore_n 3, 1), (6, .iload_n 2, 1), (7, .iconst 0, 1), (8, .bipush 99, 2), (10, .invokestatic 46, 3), (13, .aload_n 3, 1), (14, .invokestatic 111, 3), (17, .aload_n 0, 1), (18, .iload_n 2, 1), (19, .invokevirtual 129, 3), (22, .ifCond .ne 13, 3), (25, .aload_n 0, 1), (26, .dup, 1), (27, .getfield 132, 3), (30, .iconst 1, 1), (31, .iadd, 1), (32, .putfield 132, 3), (35, .aload_n 0, 1), (36, .aload_n 3, 1), (37, .iconst 0, 1), (38, .iload_n 2, 1), (39, .iload_n 2, 1), (40, .invokevirtual 135, 3), (43, .ireturn, 1)]
theorem d_S_word (i : Nat) {w : Instr × Nat} (e : go_fd t_S_word i = some w) : decode c_S_word i = .ok w := go_fd_ok (tab := t_S_word) (by decide +kernel) e
abbrev c_S_hurt : ByteArray := prog_1_method_9_code
def y_S_hurt : MethodName := ⟨RS, "hurt", "(II)I"⟩
def t_S_hurt : List (Nat × Instr × Nat) := [(0, .aload_n 0, 1), (1, .iload_n 1, 1), (2, .invokevirtual 107, 3), (5, .astore_n 3, 1), (6, .iload_n 2, 1), (7, .iconst 0, 1), (8, .sipush 10000, 3), (11, .invokestatic 46, 3), (14, .aload_n 3, 1), (15, .invokestatic 111, 3), (18, .aload_n 3, 1), (19, .getfield 139, 3), (22, .istore 4, 2), (24, .aload_n 3, 1), (25, .iload_n 2, 1), (26, .putfield 139, 3), (29, .aload_n 0, 1), (30, .aload_n 3, 1), (31, .iconst 1, 1), (32, .iload 4, 2), (34, .iconst 1, 1), (35, .iadd, 1), (36, .iload_n 2, 1), (37, .invokevirtual 135, 3), (40, .ireturn, 1)]
theorem d_S_hurt (i : Nat) {w : Instr × Nat} (e : go_fd t_S_hurt i = some w) : decode c_S_hurt i = .ok w := go_fd_ok (tab := t_S_hurt) (by decide +kernel) e
abbrev c_S_ask : ByteArray := prog_1_method_10_code
def y_S_ask : MethodName := ⟨RS, "ask", "(II)I"⟩
def t_S_ask : List (Nat × Instr × Nat) := [(0, .aload_n 0, 1), (1, .iload_n 1, 1), (2, .invokevirtual 107, 3), (5, .astore_n 3, 1), (6, .iload_n 2, 1), (7, .iconst 0, 1), (8, .bipush 9, 2), (10, .invokestatic 46, 3), (13, .aload_n 3, 1), (14, .invokestatic 111, 3), (17, .aload_n 0, 1), (18, .aload_n 3, 1), (19, .iconst 3, 1), (20, .iload_n 2, 1), (21, .iload_n 2, 1), (22, .invokevirtual 135, 3), (25, .ireturn, 1)]
theorem d_S_ask (i : Nat) {w : Instr × Nat} (e : go_fd t_S_ask i = some w) : decode c_S_ask i = .ok w := go_fd_ok (tab := t_S_ask) (by decide +kernel) e
abbrev c_S_tell : ByteArray := prog_1_method_11_code
def y_S_tell : MethodName := ⟨RS, "tell", "(I)V"⟩
def t_S_tell : List (Nat × Instr × Nat) := [(0, .aload_n 0, 1), (1, .iload_n 1, 1), (2, .invokevirtual 107, 3), (5, .astore_n 2, 1), (6, .aload_n 2, 1), (7, .invokestatic 111, 3), (10, .aload_n 2, 1), (11, .aload_n 0, 1), (12, .getfield 101, 3), (15, .putfield 104, 3), (18, .return_, 1)]
theorem d_S_tell (i : Nat) {w : Instr × Nat} (e : go_fd t_S_tell i = some w) : decode c_S_tell i = .ok w := go_fd_ok (tab := t_S_tell) (by decide +kernel) e
abbrev c_S_calm : ByteArray := prog_1_method_12_code
def y_S_calm : MethodName := ⟨RS, "calm", "(II)I"⟩
def t_S_calm : List (Nat × Instr × Nat) := [(0, .aload_n 0, 1), (1, .iload_n 1, 1), (2, .invokevirtual 107, 3), (5, .astore_n 3, 1), (6, .iload_n 2, 1), (7, .invokestatic 39, 3), (10, .aload_n 3, 1), (11, .invokestatic 111, 3), (14, .aload_n 3, 1), (15, .getfield 142, 3), (18, .iload_n 2, 1), (19, .if_icmp .gt 13, 3), (22, .new 54, 3), (25, .dup, 1), (26, .ldc 145, 2), (28, .invokespecial 58, 3), (31, .athrow, 1), (32, .aload_n 3, 1), (33, .iload_n 2, 1), (34, .putfield 142, 3), (37, .aload_n 3, 1), (38, .dup, 1), (39, .getfield 147, 3), (42, .iconst 1, 1), (43, .iadd, 1), (44, .putfield 147, 3), (47, .iconst 0, 1), (48, .istore 4, 2), (50, .iconst 0, 1), (51, .istore 5, 2), (53, .iload 5, 2), (55, .bipush 8, 2), (57, .if_icmp .ge 30, 3), (60, .iload 4, 2), (62, .aload_n 0, 1), (63, .iload_n 1, 1), (64, .iload 5, 2), (66, .aload_n 0, 1), (67, .getfield 11, 3), (70, .iload_n 2, 1), (71, .aaload, 1), (72, .iload 5, 2), (74, .iaload, 1), (75, .invokevirtual 150, 3), (78, .iadd, 1), (79, .istore 4, 2), (81, .iinc 5 1, 3), (84, .goto (-31), 3), (87, .aload_n 0, 1), (88, .dup, 1), (89, .getfield 154, 3), (92, .iload 4, 2), (94, .iadd, 1), (95, .putfield 154, 3), (98, .iload 4, 2), (100, .ireturn, 1)]
theorem d_S_calm (i : Nat) {w : Instr × Nat} (e : go_fd t_S_calm i = some w) : decode c_S_calm i = .ok w := go_fd_ok (tab := t_S_calm) (by decide +kernel) e
abbrev c_S_unit : ByteArray := prog_1_method_13_code
def y_S_unit : MethodName := ⟨RS, "unit", "(I)I"⟩
def t_S_unit : List (Nat × Instr × Nat) := [(0, .iload_n 1, 1), (1, .invokestatic 43, 3), (4, .aload_n 0, 1), (5, .getfield 115, 3), (8, .bipush 40, 2), (10, .if_icmp .lt 13, 3), (13, .new 80, 3), (16, .dup, 1), (17, .ldc 157, 2), (19, .invokespecial 84, 3), (22, .athrow, 1), (23, .aload_n 0, 1), (24, .getfield 115, 3), (27, .istore_n 2, 1), (28, .aload_n 0, 1), (29, .dup, 1), (30, .getfield 115, 3), (33, .iconst 1, 1), (34, .iadd, 1), (35, .putfield 115, 3), (38, .aload_n 0, 1), (39, .getfield 32, 3), (42, .iload_n 2, 1), (43, .aaload, 1), (44, .iload_n 1, 1), (45, .putfield 159, 3), (48, .iload_n 2, 1), (49, .ireturn, 1)]
theorem d_S_unit (i : Nat) {w : Instr × Nat} (e : go_fd t_S_unit i = some w) : decode c_S_unit i = .ok w := go_fd_ok (tab := t_S_unit) (by decide +kernel) e
abbrev c_S_go : ByteArray := prog_1_method_14_code
def y_S_go : MethodName := ⟨RS, "go", "(III)V"⟩
def t_S_go : List (Nat × Instr × Nat) := [(0, .aload_n 0, 1), (1, .iload_n 1, 1), (2, .invokevirtual 162, 3), (5, .astore 4, 2), (7, .aload_n 0, 1), (8, .iload_n 2, 1), (9, .invokevirtual 107, 3), (12, .astore 5, 2), (14, .iload_n 3, 1), (15, .iconst 0, 1), (16, .ldc 166, 2), (18, .invokestatic 46, 3), (21, .aload 4, 2), (23, .getfield 167, 3), (26, .ifCond .eq 13, 3), (29, .new 54, 3), (32, .dup, 1), (33, .ldc 170, 2), (35, .invokespecial 58, 3), (38, .athrow, 1), (39, .aload 5, 2), (41, .invokestatic 111, 3), (44, .aload 4, 2), (46, .iconst 1, 1), (47, .putfield 167, 3), (50, .aload 4, 2), (52, .iload_n 2, 1), (53, .putfield 118, 3), (56, .aload 4, 2), (58, .iload_n 3, 1), (59, .putfield 172, 3), (62, .return_, 1)]
theorem d_S_go (i : Nat) {w : Instr × Nat} (e : go_fd t_S_go i = some w) : decode c_S_go i = .ok w := go_fd_ok (tab := t_S_go) (by decide +kernel) e
abbrev c_S_arrive : ByteArray := prog_1_method_15_code
def y_S_arrive : MethodName := ⟨RS, "arrive", "(I)V"⟩
def t_S_arrive : List (Nat × Instr × Nat) := [(0, .aload_n 0, 1), (1, .iload_n 1, 1), (2, .invokevirtual 162, 3), (5, .astore_n 2, 1), (6, .aload_n 2, 1), (7, .getfield 167, 3), (10, .iconst 1, 1), (11, .if_icmp .eq 13, 3), (14, .new 54, 3), (17, .dup, 1), (18, .ldc 175, 2), (20, .invokespecial 58, 3), (23, .athrow, 1), (24, .aload_n 2, 1), (25, .iconst 2, 1), (26, .putfield 167, 3), (29, .return_, 1)]
theorem d_S_arrive (i : Nat) {w : Instr × Nat} (e : go_fd t_S_arrive i = some w) : decode c_S_arrive i = .ok w := go_fd_ok (tab := t_S_arrive) (by decide +kernel) e
abbrev c_S_needed : ByteArray := prog_1_method_16_code
def y_S_needed : MethodName := ⟨RS, "needed", "(II)I"⟩
def t_S_needed : List (Nat × Instr × Nat) := [(0, .aload_n 0, 1), (1, .iload_n 1, 1), (2, .invokevirtual 107, 3), (5, .astore_n 3, 1), (6, .iload_n 2, 1), (7, .invokestatic 43, 3), (10, .aload_n 3, 1), (11, .invokestatic 111, 3), (14, .aload_n 0, 1), (15, .getfield 11, 3), (18, .aload_n 3, 1), (19, .getfield 142, 3), (22, .aaload, 1), (23, .iload_n 2, 1), (24, .iaload, 1), (25, .aload_n 0, 1), (26, .iload_n 1, 1), (27, .iload_n 2, 1), (28, .invokevirtual 177, 3), (31, .isub, 1), (32, .ireturn, 1)]
theorem d_S_needed (i : Nat) {w : Instr × Nat} (e : go_fd t_S_needed i = some w) : decode c_S_needed i = .ok w := go_fd_ok (tab := t_S_needed) (by decide +kernel) e
abbrev c_S_incident : ByteArray := prog_1_method_17_code
def y_S_incident : MethodName := ⟨RS, "incident", "(II)I"⟩
def t_S_incident : List (Nat × Instr × Nat) := [(0, .aload_n 0, 1), (1, .iload_n 1, 1), (2, .invokevirtual 107, 3), (5, .astore_n 3, 1), (6, .iload_n 2, 1), (7, .tableswitch 84 0 6 #[41, 46, 59, 64, 69, 74, 79], 41), (48, .aload_n 3, 1), (49, .getfield 142, 3), (52, .ireturn, 1), (53, .aload_n 3, 1), (54, .getfield 97, 3), (57, .ifCond .eq 7, 3), (60, .iconst 1, 1), (61, .goto 4, 3), (64, .iconst 0, 1), (65, .ireturn, 1), (66, .aload_n 3, 1), (67, .getfield 139, 3), (70, .ireturn, 1), (71, .aload_n 3, 1), (72, .getfield 104, 3), (75, .ireturn, 1), (76, .aload_n 3, 1), (77, .getfield 181, 3), (80, .ireturn, 1), (81, .aload_n 3, 1), (82, .getfield 184, 3), (85, .ireturn, 1), (86, .aload_n 3, 1), (87, .getfield 147, 3), (90, .ireturn, 1), (91, .new 65, 3), (94, .dup, 1), (95, .ldc 187, 2), (97, .invokespecial 69, 3), (100, .athrow, 1)]
theorem d_S_incident (i : Nat) {w : Instr × Nat} (e : go_fd t_S_incident i = some w) : decode c_S_incident i = .ok w := go_fd_ok (tab := t_S_incident) (by decide +kernel) e
abbrev c_S_unitAt : ByteArray := prog_1_method_18_code
def y_S_unitAt : MethodName := ⟨RS, "unitAt", "(II)I"⟩
def t_S_unitAt : List (Nat × Instr × Nat) := [(0, .aload_n 0, 1), (1, .iload_n 1, 1), (2, .invokevirtual 162, 3), (5, .astore_n 3, 1), (6, .iload_n 2, 1), (7, .tableswitch 40 0 2 #[25, 30, 35], 25), (32, .aload_n 3, 1), (33, .getfield 167, 3), (36, .ireturn, 1), (37, .aload_n 3, 1), (38, .getfield 118, 3), (41, .ireturn, 1), (42, .aload_n 3, 1), (43, .getfield 172, 3), (46, .ireturn, 1), (47, .new 65, 3), (50, .dup, 1), (51, .ldc 189, 2), (53, .invokespecial 69, 3), (56, .athrow, 1)]
theorem d_S_unitAt (i : Nat) {w : Instr × Nat} (e : go_fd t_S_unitAt i = some w) : decode c_S_unitAt i = .ok w := go_fd_ok (tab := t_S_unitAt) (by decide +kernel) e
abbrev c_S_acted : ByteArray := prog_1_method_19_code
def y_S_acted : MethodName := ⟨RS, "acted", "(I)I"⟩
def t_S_acted : List (Nat × Instr × Nat) := [(0, .iload_n 1, 1), (1, .ifCond .lt 11, 3), (4, .iload_n 1, 1), (5, .aload_n 0, 1), (6, .getfield 77, 3), (9, .if_icmp .lt 13, 3), (12, .new 65, 3), (15, .dup, 1), (16, .ldc 191, 2), (18, .invokespecial 69, 3), (21, .athrow, 1), (22, .aload_n 0, 1), (23, .getfield 16, 3), (26, .iload_n 1, 1), (27, .aaload, 1), (28, .getfield 193, 3), (31, .ireturn, 1)]
theorem d_S_acted (i : Nat) {w : Instr × Nat} (e : go_fd t_S_acted i = some w) : decode c_S_acted i = .ok w := go_fd_ok (tab := t_S_acted) (by decide +kernel) e
abbrev c_S_count : ByteArray := prog_1_method_20_code
def y_S_count : MethodName := ⟨RS, "count", "(I)I"⟩
def t_S_count : List (Nat × Instr × Nat) := [(0, .iload_n 1, 1), (1, .tableswitch 51 0 3 #[31, 36, 41, 46], 31), (32, .aload_n 0, 1), (33, .getfield 101, 3), (36, .ireturn, 1), (37, .aload_n 0, 1), (38, .getfield 132, 3), (41, .ireturn, 1), (42, .aload_n 0, 1), (43, .getfield 154, 3), (46, .ireturn, 1), (47, .aload_n 0, 1), (48, .getfield 194, 3), (51, .ireturn, 1), (52, .new 65, 3), (55, .dup, 1), (56, .ldc 197, 2), (58, .invokespecial 69, 3), (61, .athrow, 1)]
theorem d_S_count (i : Nat) {w : Instr × Nat} (e : go_fd t_S_count i = some w) : decode c_S_count i = .ok w := go_fd_ok (tab := t_S_count) (by decide +kernel) e
abbrev c_S_refuseUnknownStep : ByteArray := prog_1_method_21_code
def y_S_refuseUnknownStep : MethodName := ⟨RS, "refuseUnknownStep", "(I)V"⟩
def t_S_refuseUnknownStep : List (Nat × Instr × Nat) := [(0, .iload_n 0, 1), (1, .ifCond .lt 9, 3), (4, .iload_n 0, 1), (5, .bipush 10, 2), (7, .if_icmp .lt 13, 3), (10, .new 65, 3), (13, .dup, 1), (14, .ldc 199, 2), (16, .invokespecial 69, 3), (19, .athrow, 1), (20, .return_, 1)]
theorem d_S_refuseUnknownStep (i : Nat) {w : Instr × Nat} (e : go_fd t_S_refuseUnknownStep i = some w) : decode c_S_refuseUnknownStep i = .ok w := go_fd_ok (tab := t_S_refuseUnknownStep) (by decide +kernel) e
abbrev c_S_refuseUnknownSkill : ByteArray := prog_1_method_22_code
def y_S_refuseUnknownSkill : MethodName := ⟨RS, "refuseUnknownSkill", "(I)V"⟩
def t_S_refuseUnknownSkill : List (Nat × Instr × Nat) := [(0, .iload_n 0, 1), (1, .ifCond .lt 9, 3), (4, .iload_n 0, 1), (5, .bipush 8, 2), (7, .if_icmp .lt 13, 3), (10, .new 65, 3), (13, .dup, 1), (14, .ldc 201, 2), (16, .invokespecial 69, 3), (19, .athrow, 1), (20, .return_, 1)]
theorem d_S_refuseUnknownSkill (i : Nat) {w : Instr × Nat} (e : go_fd t_S_refuseUnknownSkill i = some w) : decode c_S_refuseUnknownSkill i = .ok w := go_fd_ok (tab := t_S_refuseUnknownSkill) (by decide +kernel) e
abbrev c_S_refuseOutside : ByteArray := prog_1_method_23_code
def y_S_refuseOutside : MethodName := ⟨RS, "refuseOutside", "(III)V"⟩
def t_S_refuseOutside : List (Nat × Instr × Nat) := [(0, .iload_n 0, 1), (1, .iload_n 1, 1), (2, .if_icmp .lt 8, 3), (5, .iload_n 0, 1), (6, .iload_n 2, 1), (7, .if_icmp .le 13, 3), (10, .new 203, 3), (13, .dup, 1), (14, .ldc 205, 2), (16, .invokespecial 207, 3), (19, .athrow, 1), (20, .return_, 1)]
theorem d_S_refuseOutside (i : Nat) {w : Instr × Nat} (e : go_fd t_S_refuseOutside i = some w) : decode c_S_refuseOutside i = .ok w := go_fd_ok (tab := t_S_refuseOutside) (by decide +kernel) e
abbrev c_S_refuseClosed : ByteArray := prog_1_method_24_code
def y_S_refuseClosed : MethodName := ⟨RS, "refuseClosed", "(LSecondWaves$Incident;)V"⟩
def t_S_refuseClosed : List (Nat × Instr × Nat) := [(0, .aload_n 0, 1), (1, .getfield 97, 3), (4, .ifCond .ne 13, 3), (7, .new 54, 3), (10, .dup, 1), (11, .ldc 208, 2), (13, .invokespecial 58, 3), (16, .athrow, 1), (17, .return_, 1)]
theorem d_S_refuseClosed (i : Nat) {w : Instr × Nat} (e : go_fd t_S_refuseClosed i = some w) : decode c_S_refuseClosed i = .ok w := go_fd_ok (tab := t_S_refuseClosed) (by decide +kernel) e
abbrev c_S_knownIncident : ByteArray := prog_1_method_25_code
def y_S_knownIncident : MethodName := ⟨RS, "knownIncident", "(I)LSecondWaves$Incident;"⟩
def t_S_knownIncident : List (Nat × Instr × Nat) := [(0, .iload_n 1, 1), (1, .ifCond .lt 11, 3), (4, .iload_n 1, 1), (5, .aload_n 0, 1), (6, .getfield 92, 3), (9, .if_icmp .lt 13, 3), (12, .new 65, 3), (15, .dup, 1), (16, .ldc 210, 2), (18, .invokespecial 69, 3), (21, .athrow, 1), (22, .aload_n 0, 1), (23, .getfield 26, 3), (26, .iload_n 1, 1), (27, .aaload, 1), (28, .areturn, 1)]
theorem d_S_knownIncident (i : Nat) {w : Instr × Nat} (e : go_fd t_S_knownIncident i = some w) : decode c_S_knownIncident i = .ok w := go_fd_ok (tab := t_S_knownIncident) (by decide +kernel) e
abbrev c_S_knownUnit : ByteArray := prog_1_method_26_code
def y_S_knownUnit : MethodName := ⟨RS, "knownUnit", "(I)LSecondWaves$Unit;"⟩
def t_S_knownUnit : List (Nat × Instr × Nat) := [(0, .iload_n 1, 1), (1, .ifCond .lt 11, 3), (4, .iload_n 1, 1), (5, .aload_n 0, 1), (6, .getfield 115, 3), (9, .if_icmp .lt 13, 3), (12, .new 65, 3), (15, .dup, 1), (16, .ldc 212, 2), (18, .invokespecial 69, 3), (21, .athrow, 1), (22, .aload_n 0, 1), (23, .getfield 32, 3), (26, .iload_n 1, 1), (27, .aaload, 1), (28, .areturn, 1)]
theorem d_S_knownUnit (i : Nat) {w : Instr × Nat} (e : go_fd t_S_knownUnit i = some w) : decode c_S_knownUnit i = .ok w := go_fd_ok (tab := t_S_knownUnit) (by decide +kernel) e
abbrev c_S_isAnyOpenAbove : ByteArray := prog_1_method_27_code
def y_S_isAnyOpenAbove : MethodName := ⟨RS, "isAnyOpenAbove", "(I)Z"⟩
def t_S_isAnyOpenAbove : List (Nat × Instr × Nat) := [(0, .iconst 0, 1), (1, .istore_n 2, 1), (2, .iload_n 2, 1), (3, .aload_n 0, 1), (4, .getfield 92, 3), (7, .if_icmp .ge 36, 3), (10, .aload_n 0, 1), (11, .getfield 26, 3), (14, .iload_n 2, 1), (15, .aaload, 1), (16, .getfield 97, 3), (19, .ifCond .eq 18, 3), (22, .aload_n 0, 1), (23, .getfield 26, 3), (26, .iload_n 2, 1), (27, .aaload, 1), (28, .getfield 142, 3), (31, .iload_n 1, 1), (32, .if_icmp .le 5, 3), (35, .iconst 1, 1), (36, .ireturn, 1), (37, .iinc 2 1, 3), (40, .goto (-38), 3), (43, .iconst 0, 1), (44, .ireturn, 1)]
theorem d_S_isAnyOpenAbove (i : Nat) {w : Instr × Nat} (e : go_fd t_S_isAnyOpenAbove i = some w) : decode c_S_isAnyOpenAbove i = .ok w := go_fd_ok (tab := t_S_isAnyOpenAbove) (by decide +kernel) e
abbrev c_S_hasTriggerForWord : ByteArray := prog_1_method_28_code
def y_S_hasTriggerForWord : MethodName := ⟨RS, "hasTriggerForWord", "(I)Z"⟩
def t_S_hasTriggerForWord : List (Nat × Instr × Nat) := [(0, .iconst 0, 1), (1, .istore_n 2, 1), (2, .iload_n 2, 1), (3, .aload_n 0, 1), (4, .getfield 77, 3), (7, .if_icmp .ge 26, 3), (10, .aload_n 0, 1), (11, .getfield 16, 3), (14, .iload_n 2, 1), (15, .aaload, 1), (16, .iconst 0, 1), (17, .iload_n 1, 1), (18, .iload_n 1, 1), (19, .invokevirtual 214, 3), (22, .ifCond .eq 5, 3), (25, .iconst 1, 1), (26, .ireturn, 1), (27, .iinc 2 1, 3), (30, .goto (-28), 3), (33, .iconst 0, 1), (34, .ireturn, 1)]
theorem d_S_hasTriggerForWord (i : Nat) {w : Instr × Nat} (e : go_fd t_S_hasTriggerForWord i = some w) : decode c_S_hasTriggerForWord i = .ok w := go_fd_ok (tab := t_S_hasTriggerForWord) (by decide +kernel) e
abbrev c_S_addSilence : ByteArray := prog_1_method_29_code
def y_S_addSilence : MethodName := ⟨RS, "addSilence", "(I)V"⟩
def t_S_addSilence : List (Nat × Instr × Nat) := [(0, .aload_n 0, 1), (1, .getfield 218, 3), (4, .istore_n 2, 1), (5, .aload_n 0, 1), (6, .dup, 1), (7, .getfield 218, 3), (10, .iconst 1, 1), (11, .iadd, 1), (12, .putfield 218, 3), (15, .iload_n 2, 1), (16, .ifCond .le 51, 3), (19, .aload_n 0, 1), (20, .getfield 16, 3), (23, .aload_n 0, 1), (24, .getfield 20, 3), (27, .iload_n 2, 1), (28, .iconst 1, 1), (29, .isub, 1), (30, .iaload, 1), (31, .aaload, 1), (32, .getfield 221, 3), (35, .aload_n 0, 1), (36, .getfield 16, 3), (39, .iload_n 1, 1), (40, .aaload, 1), (41, .getfield 221, 3), (44, .if_icmp .le 23, 3), (47, .aload_n 0, 1), (48, .getfield 20, 3), (51, .iload_n 2, 1), (52, .aload_n 0, 1), (53, .getfield 20, 3), (56, .iload_n 2, 1), (57, .iconst 1, 1), (58, .isub, 1), (59, .iaload, 1), (60, .iastore, 1), (61, .iinc 2 (-1), 3), (64, .goto (-49), 3), (67, .aload_n 0, 1), (68, .getfield 20, 3), (71, .iload_n 2, 1), (72, .iload_n 1, 1), (73, .iastore, 1), (74, .return_, 1)]
theorem d_S_addSilence (i : Nat) {w : Instr × Nat} (e : go_fd t_S_addSilence i = some w) : decode c_S_addSilence i = .ok w := go_fd_ok (tab := t_S_addSilence) (by decide +kernel) e
abbrev c_S_happened : ByteArray := prog_1_method_30_code
def y_S_happened : MethodName := ⟨RS, "happened", "(LSecondWaves$Incident;III)I"⟩
def t_S_happened : List (Nat × Instr × Nat) := [(0, .iconst 0, 1), (1, .istore 5, 2), (3, .iconst 0, 1), (4, .istore 6, 2), (6, .iload 6, 2), (8, .aload_n 0, 1), (9, .getfield 77, 3), (12, .if_icmp .ge 43, 3), (15, .aload_n 0, 1), (16, .getfield 16, 3), (19, .iload 6, 2), (21, .aaload, 1), (22, .iload_n 2, 1), (23, .iload_n 3, 1), (24, .iload 4, 2), (26, .invokevirtual 214, 3), (29, .ifCond .eq 20, 3), (32, .aload_n 0, 1), (33, .aload_n 1, 1), (34, .iload 6, 2), (36, .aload_n 0, 1), (37, .getfield 101, 3), (40, .invokevirtual 224, 3), (43, .ifCond .eq 6, 3), (46, .iinc 5 1, 3), (49, .iinc 6 1, 3), (52, .goto (-46), 3), (55, .iload 5, 2), (57, .ireturn, 1)]
theorem d_S_happened (i : Nat) {w : Instr × Nat} (e : go_fd t_S_happened i = some w) : decode c_S_happened i = .ok w := go_fd_ok (tab := t_S_happened) (by decide +kernel) e
abbrev c_S_stayedSilent : ByteArray := prog_1_method_31_code
def y_S_stayedSilent : MethodName := ⟨RS, "stayedSilent", "(LSecondWaves$Incident;I)I"⟩
def t_S_stayedSilent : List (Nat × Instr × Nat) := [(0, .iconst 0, 1), (1, .istore_n 3, 1), (2, .iconst 0, 1), (3, .istore 4, 2), (5, .iload 4, 2), (7, .aload_n 0, 1), (8, .getfield 218, 3), (11, .if_icmp .ge 66, 3), (14, .aload_n 1, 1), (15, .getfield 104, 3), (18, .aload_n 0, 1), (19, .getfield 16, 3), (22, .aload_n 0, 1), (23, .getfield 20, 3), (26, .iload 4, 2), (28, .iaload, 1), (29, .aaload, 1), (30, .getfield 221, 3), (33, .iadd, 1), (34, .istore 5, 2), (36, .iload 5, 2), (38, .aload_n 0, 1), (39, .getfield 101, 3), (42, .if_icmp .le 29, 3), (45, .iload 5, 2), (47, .iload_n 2, 1), (48, .if_icmp .gt 23, 3), (51, .aload_n 0, 1), (52, .aload_n 1, 1), (53, .aload_n 0, 1), (54, .getfield 20, 3), (57, .iload 4, 2), (59, .iaload, 1), (60, .iload 5, 2), (62, .invokevirtual 224, 3), (65, .ifCond .eq 6, 3), (68, .iinc 3 1, 3), (71, .iinc 4 1, 3), (74, .goto (-69), 3), (77, .iload_n 3, 1), (78, .ireturn, 1)]
theorem d_S_stayedSilent (i : Nat) {w : Instr × Nat} (e : go_fd t_S_stayedSilent i = some w) : decode c_S_stayedSilent i = .ok w := go_fd_ok (tab := t_S_stayedSilent) (by decide +kernel) e
abbrev c_S_act : ByteArray := prog_1_method_32_code
def y_S_act : MethodName := ⟨RS, "act", "(LSecondWaves$Incident;II)Z"⟩
def t_S_act : List (Nat × Instr × Nat) := [(0, .aload_n 0, 1), (1, .getfield 16, 3), (4, .iload_n 2, 1), (5, .aaload, 1), (6, .astore 4, 2), (8, .aload_n 1, 1), (9, .getfield 228, 3), (12, .iload_n 2, 1), (13, .iaload, 1), (14, .istore 5, 2), (16, .iload 5, 2), (18, .iconst (-1), 1), (19, .if_icmp .eq 17, 3), (22, .iload_n 3, 1), (23, .iload 5, 2), (25, .isub, 1), (26, .aload 4, 2), (28, .getfield 231, 3), (31, .if_icmp .ge 5, 3), (34, .iconst 0, 1), (35, .ireturn, 1), (36, .aload_n 1, 1), (37, .getfield 228, 3), (40, .iload_n 2, 1), (41, .iload_n 3, 1), (42, .iastore, 1), (43, .aload_n 1, 1), (44, .dup, 1), (45, .getfield 181, 3), (48, .iconst 1, 1), (49, .iadd, 1), (50, .putfield 181, 3), (53, .aload 4, 2), (55, .dup, 1), (56, .getfield 193, 3), (59, .iconst 1, 1), (60, .iadd, 1), (61, .putfield 193, 3), (64, .aload_n 0, 1), (65, .aload_n 1, 1), (66, .aload 4, 2), (68, .getfield 234, 3), (71, .aload_n 0, 1), (72, .getfield 61, 3), (75, .invokestatic 235, 3), (78, .invokevirtual 240, 3), (81, .iconst 1, 1), (82, .ireturn, 1)]
theorem d_S_act (i : Nat) {w : Instr × Nat} (e : go_fd t_S_act i = some w) : decode c_S_act i = .ok w := go_fd_ok (tab := t_S_act) (by decide +kernel) e
abbrev c_S_raise : ByteArray := prog_1_method_33_code
def y_S_raise : MethodName := ⟨RS, "raise", "(LSecondWaves$Incident;I)V"⟩
def t_S_raise : List (Nat × Instr × Nat) := [(0, .iload_n 2, 1), (1, .aload_n 1, 1), (2, .getfield 142, 3), (5, .if_icmp .le 21, 3), (8, .aload_n 1, 1), (9, .iload_n 2, 1), (10, .putfield 142, 3), (13, .aload_n 1, 1), (14, .dup, 1), (15, .getfield 184, 3), (18, .iconst 1, 1), (19, .iadd, 1), (20, .putfield 184, 3), (23, .goto 13, 3), (26, .aload_n 0, 1), (27, .dup, 1), (28, .getfield 194, 3), (31, .iconst 1, 1), (32, .iadd, 1), (33, .putfield 194, 3), (36, .return_, 1)]
theorem d_S_raise (i : Nat) {w : Instr × Nat} (e : go_fd t_S_raise i = some w) : decode c_S_raise i = .ok w := go_fd_ok (tab := t_S_raise) (by decide +kernel) e
abbrev c_S_unitsFor : ByteArray := prog_1_method_34_code
def y_S_unitsFor : MethodName := ⟨RS, "unitsFor", "(II)I"⟩
def t_S_unitsFor : List (Nat × Instr × Nat) := [(0, .iconst 0, 1), (1, .istore_n 3, 1), (2, .iconst 0, 1), (3, .istore 4, 2), (5, .iload 4, 2), (7, .aload_n 0, 1), (8, .getfield 115, 3), (11, .if_icmp .ge 27, 3), (14, .aload_n 0, 1), (15, .getfield 32, 3), (18, .iload 4, 2), (20, .aaload, 1), (21, .iload_n 1, 1), (22, .iload_n 2, 1), (23, .invokevirtual 244, 3), (26, .ifCond .eq 6, 3), (29, .iinc 3 1, 3), (32, .iinc 4 1, 3), (35, .goto (-30), 3), (38, .iload_n 3, 1), (39, .ireturn, 1)]
theorem d_S_unitsFor (i : Nat) {w : Instr × Nat} (e : go_fd t_S_unitsFor i = some w) : decode c_S_unitsFor i = .ok w := go_fd_ok (tab := t_S_unitsFor) (by decide +kernel) e
abbrev c_S_recallTooMuch : ByteArray := prog_1_method_35_code
def y_S_recallTooMuch : MethodName := ⟨RS, "recallTooMuch", "(III)I"⟩
def t_S_recallTooMuch : List (Nat × Instr × Nat) := [(0, .aload_n 0, 1), (1, .iload_n 1, 1), (2, .iload_n 2, 1), (3, .invokevirtual 177, 3), (6, .iload_n 3, 1), (7, .isub, 1), (8, .iconst 0, 1), (9, .invokestatic 247, 3), (12, .istore 4, 2), (14, .iconst 0, 1), (15, .istore 5, 2), (17, .iload 5, 2), (19, .iload 4, 2), (21, .if_icmp .ge 15, 3), (24, .aload_n 0, 1), (25, .iload_n 1, 1), (26, .iload_n 2, 1), (27, .invokevirtual 250, 3), (30, .iinc 5 1, 3), (33, .goto (-16), 3), (36, .iload 4, 2), (38, .ireturn, 1)]
theorem d_S_recallTooMuch (i : Nat) {w : Instr × Nat} (e : go_fd t_S_recallTooMuch i = some w) : decode c_S_recallTooMuch i = .ok w := go_fd_ok (tab := t_S_recallTooMuch) (by decide +kernel) e
abbrev c_S_recallOne : ByteArray := prog_1_method_36_code
def y_S_recallOne : MethodName := ⟨RS, "recallOne", "(II)V"⟩
def t_S_recallOne : List (Nat × Instr × Nat) := [(0, .iconst (-1), 1), (1, .istore_n 3, 1), (2, .iconst 0, 1), (3, .istore 4, 2), (5, .iload 4, 2), (7, .aload_n 0, 1), (8, .getfield 115, 3), (11, .if_icmp .ge 51, 3), (14, .aload_n 0, 1), (15, .getfield 32, 3), (18, .iload 4, 2), (20, .aaload, 1), (21, .iload_n 1, 1), (22, .iload_n 2, 1), (23, .invokevirtual 244, 3), (26, .ifCond .eq 30, 3), (29, .iload_n 3, 1), (30, .iconst (-1), 1), (31, .if_icmp .eq 22, 3), (34, .aload_n 0, 1), (35, .getfield 32, 3), (38, .iload 4, 2), (40, .aaload, 1), (41, .aload_n 0, 1), (42, .getfield 32, 3), (45, .iload_n 3, 1), (46, .aaload, 1), (47, .invokevirtual 254, 3), (50, .ifCond .eq 6, 3), (53, .iload 4, 2), (55, .istore_n 3, 1), (56, .iinc 4 1, 3), (59, .goto (-54), 3), (62, .iload_n 3, 1), (63, .iconst (-1), 1), (64, .if_icmp .eq 12, 3), (67, .aload_n 0, 1), (68, .getfield 32, 3), (71, .iload_n 3, 1), (72, .aaload, 1), (73, .invokevirtual 121, 3), (76, .return_, 1)]
theorem d_S_recallOne (i : Nat) {w : Instr × Nat} (e : go_fd t_S_recallOne i = some w) : decode c_S_recallOne i = .ok w := go_fd_ok (tab := t_S_recallOne) (by decide +kernel) e
abbrev c_M_init : ByteArray := prog_6_method_1_code
def y_M_init : MethodName := ⟨RM, "<init>", "()V"⟩
def t_M_init : List (Nat × Instr × Nat) := [(0, .aload_n 0, 1), (1, .invokespecial 1, 3), (4, .aload_n 0, 1), (5, .bipush 80, 2), (7, .newarray .int, 2), (9, .putfield 7, 3), (12, .aload_n 0, 1), (13, .bipush 20, 2), (15, .newarray .int, 2), (17, .putfield 13, 3), (20, .aload_n 0, 1), (21, .bipush 20, 2), (23, .newarray .int, 2), (25, .putfield 16, 3), (28, .aload_n 0, 1), (29, .bipush 20, 2), (31, .newarray .int, 2), (33, .putfield 19, 3), (36, .aload_n 0, 1), (37, .bipush 20, 2), (39, .newarray .int, 2), (41, .putfield 22, 3), (44, .aload_n 0, 1), (45, .bipush 20, 2), (47, .newarray .int, 2), (49, .putfield 25, 3), (52, .aload_n 0, 1), (53, .bipush 12, 2), (55, .newarray .boolean, 2), (57, .putfield 28, 3), (60, .aload_n 0, 1), (61, .bipush 12, 2), (63, .newarray .int, 2), (65, .putfield 32, 3), (68, .aload_n 0, 1), (69, .bipush 12, 2), (71, .newarray .int, 2), (73, .putfield 35, 3), (76, .aload_n 0, 1), (77, .bipush 12, 2), (79, .newarray .int, 2), (81, .putfield 38, 3), (84, .aload_n 0, 1), (85, .bipush 12, 2), (87, .newarray .int, 2), (89, .putfield 41, 3), (92, .aload_n 0, 1), (93, .bipush 12, 2), (95, .newarray .int, 2), (97, .putfield 44, 3), (100, .aload_n 0, 1), (101, .bipush 12, 2), (103, .newarray .int, 2), (105, .putfield 47, 3), (108, .aload_n 0, 1), (109, .sipush 240, 3), (112, .newarray .int, 2), (114, .putfield 50, 3), (117, .aload_n 0, 1), (118, .bipush 40, 2), (120, .newarray .int, 2), (122, .putfield 53, 3), (125, .aload_n 0, 1), (126, .bipush 40, 2), (128, .newarray .int, 2), (130, .putfield 56, 3), (133, .aload_n 0, 1), (134, .bipush 40, 2), (136, .newarray .int, 2), (138, .putfield 59, 3), (141, .aload_n 0, 1), (142, .bipush 40, 2), (144, .newarray .int, 2), (146, .putfield 62, 3), (149, .iconst 0, 1), (150, .istore_n 1, 1), (151, .iload_n 1, 1), (152, .sipush 240, 3), (155, .if_icmp .ge 17, 3), (158, .aload_n 0, 1), (159, .getfield 50, 3), (162, .iload_n 1, 1), (163, .ldc 65, 2), (165, .iastore, 1), (166, .iinc 1 1, 3), (169, .goto (-18), 3), (172, .return_, 1)]
theorem d_M_init (i : Nat) {w : Instr × Nat} (e : go_fd t_M_init i = some w) : decode c_M_init i = .ok w := go_fd_ok (tab := t_M_init) (by decide +kernel) e
abbrev c_M_thrown : ByteArray := prog_6_method_2_code
def y_M_thrown : MethodName := ⟨RM, "thrown", "()I"⟩
def t_M_thrown : List (Nat × Instr × Nat) := [(0, .aload_n 0, 1), (1, .getfield 66, 3), (4, .ireturn, 1)]
theorem d_M_thrown (i : Nat) {w : Instr × Nat} (e : go_fd t_M_thrown i = some w) : decode c_M_thrown i = .ok w := go_fd_ok (tab := t_M_thrown) (by decide +kernel) e
abbrev c_M_throwing : ByteArray := prog_6_method_3_code
def y_M_throwing : MethodName := ⟨RM, "throwing", "(ZZZ)Z"⟩
def t_M_throwing : List (Nat × Instr × Nat) := [(0, .aload_n 0, 1), (1, .iload_n 1, 1), (2, .ifCond .eq 7, 3), (5, .iconst 1, 1), (6, .goto 20, 3), (9, .iload_n 2, 1), (10, .ifCond .eq 7, 3), (13, .iconst 2, 1), (14, .goto 12, 3), (17, .iload_n 3, 1), (18, .ifCond .eq 7, 3), (21, .iconst 3, 1), (22, .goto 4, 3), (25, .iconst 0, 1), (26, .putfield 66, 3), (29, .aload_n 0, 1), (30, .getfield 66, 3), (33, .ifCond .le 7, 3), (36, .iconst 1, 1), (37, .goto 4, 3), (40, .iconst 0, 1), (41, .ireturn, 1)]
theorem d_M_throwing (i : Nat) {w : Instr × Nat} (e : go_fd t_M_throwing i = some w) : decode c_M_throwing i = .ok w := go_fd_ok (tab := t_M_throwing) (by decide +kernel) e
abbrev c_M_in : ByteArray := prog_6_method_4_code
def y_M_in : MethodName := ⟨RM, "in", "(III)Z"⟩
def t_M_in : List (Nat × Instr × Nat) := [(0, .iload_n 0, 1), (1, .iload_n 1, 1), (2, .if_icmp .lt 12, 3), (5, .iload_n 0, 1), (6, .iload_n 2, 1), (7, .if_icmp .gt 7, 3), (10, .iconst 1, 1), (11, .goto 4, 3), (14, .iconst 0, 1), (15, .ireturn, 1)]
theorem d_M_in (i : Nat) {w : Instr × Nat} (e : go_fd t_M_in i = some w) : decode c_M_in i = .ok w := go_fd_ok (tab := t_M_in) (by decide +kernel) e
abbrev c_M_isIncident : ByteArray := prog_6_method_5_code
def y_M_isIncident : MethodName := ⟨RM, "isIncident", "(I)Z"⟩
def t_M_isIncident : List (Nat × Instr × Nat) := [(0, .iload_n 1, 1), (1, .iconst 0, 1), (2, .aload_n 0, 1), (3, .getfield 70, 3), (6, .iconst 1, 1), (7, .isub, 1), (8, .invokestatic 73, 3), (11, .ireturn, 1)]
theorem d_M_isIncident (i : Nat) {w : Instr × Nat} (e : go_fd t_M_isIncident i = some w) : decode c_M_isIncident i = .ok w := go_fd_ok (tab := t_M_isIncident) (by decide +kernel) e
abbrev c_M_isClosed : ByteArray := prog_6_method_6_code
def y_M_isClosed : MethodName := ⟨RM, "isClosed", "(I)Z"⟩
def t_M_isClosed : List (Nat × Instr × Nat) := [(0, .aload_n 0, 1), (1, .iload_n 1, 1), (2, .invokevirtual 77, 3), (5, .ifCond .eq 16, 3), (8, .aload_n 0, 1), (9, .getfield 28, 3), (12, .iload_n 1, 1), (13, .baload, 1), (14, .ifCond .ne 7, 3), (17, .iconst 1, 1), (18, .goto 4, 3), (21, .iconst 0, 1), (22, .ireturn, 1)]
theorem d_M_isClosed (i : Nat) {w : Instr × Nat} (e : go_fd t_M_isClosed i = some w) : decode c_M_isClosed i = .ok w := go_fd_ok (tab := t_M_isClosed) (by decide +kernel) e
abbrev c_M_isUnit : ByteArray := prog_6_method_7_code
def y_M_isUnit : MethodName := ⟨RM, "isUnit", "(I)Z"⟩
def t_M_isUnit : List (Nat × Instr × Nat) := [(0, .iload_n 1, 1), (1, .iconst 0, 1), (2, .aload_n 0, 1), (3, .getfield 81, 3), (6, .iconst 1, 1), (7, .isub, 1), (8, .invokestatic 73, 3), (11, .ireturn, 1)]
theorem d_M_isUnit (i : Nat) {w : Instr × Nat} (e : go_fd t_M_isUnit i = some w) : decode c_M_isUnit i = .ok w := go_fd_ok (tab := t_M_isUnit) (by decide +kernel) e
abbrev c_M_row : ByteArray := prog_6_method_8_code
def y_M_row : MethodName := ⟨RM, "row", "(III)V"⟩
def t_M_row : List (Nat × Instr × Nat) := [(0, .aload_n 0, 1), (1, .iload_n 1, 1), (2, .iconst 0, 1), (3, .bipush 9, 2), (5, .invokestatic 73, 3), (8, .ifCond .eq 13, 3), (11, .iload_n 2, 1), (12, .iconst 0, 1), (13, .bipush 7, 2), (15, .invokestatic 73, 3), (18, .ifCond .ne 7, 3), (21, .iconst 1, 1), (22, .goto 4, 3), (25, .iconst 0, 1), (26, .iload_n 3, 1), (27, .iconst 0, 1), (28, .bipush 30, 2), (30, .invokestatic 73, 3), (33, .ifCond .ne 7, 3), (36, .iconst 1, 1), (37, .goto 4, 3), (40, .iconst 0, 1), (41, .iconst 0, 1), (42, .invokevirtual 84, 3), (45, .ifCond .eq 4, 3), (48, .return_, 1), (49, .aload_n 0, 1), (50, .getfield 7, 3), (53, .bipush 8, 2), (55, .iload_n 1, 1), (56, .imul, 1), (57, .iload_n 2, 1), (58, .iadd, 1), (59, .iload_n 3, 1), (60, .iastore, 1), (61, .return_, 1)]
theorem d_M_row (i : Nat) {w : Instr × Nat} (e : go_fd t_M_row i = some w) : decode c_M_row i = .ok w := go_fd_ok (tab := t_M_row) (by decide +kernel) e
abbrev c_M_top : ByteArray := prog_6_method_9_code
def y_M_top : MethodName := ⟨RM, "top", "(I)V"⟩
def t_M_top : List (Nat × Instr × Nat) := [(0, .iconst 0, 1), (1, .istore_n 2, 1), (2, .iconst 0, 1), (3, .istore_n 3, 1), (4, .iload_n 3, 1), (5, .aload_n 0, 1), (6, .getfield 70, 3), (9, .if_icmp .ge 38, 3), (12, .iload_n 2, 1), (13, .ifCond .ne 22, 3), (16, .aload_n 0, 1), (17, .getfield 28, 3), (20, .iload_n 3, 1), (21, .baload, 1), (22, .ifCond .eq 17, 3), (25, .aload_n 0, 1), (26, .getfield 32, 3), (29, .iload_n 3, 1), (30, .iaload, 1), (31, .iload_n 1, 1), (32, .if_icmp .le 7, 3), (35, .iconst 1, 1), (36, .goto 4, 3), (39, .iconst 0, 1), (40, .istore_n 2, 1), (41, .iinc 3 1, 3), (44, .goto (-40), 3), (47, .aload_n 0, 1), (48, .iload_n 1, 1), (49, .iconst 0, 1), (50, .bipush 9, 2), (52, .invokestatic 73, 3), (55, .ifCond .ne 7, 3), (58, .iconst 1, 1), (59, .goto 4, 3), (62, .iconst 0, 1), (63, .iload_n 2, 1), (64, .iconst 0, 1), (65, .invokevirtual 84, 3), (68, .ifCond .eq 4, 3), (71, .return_, 1), (72, .aload_n 0, 1), (73, .iload_n 1, 1), (74, .putfield 88, 3), (77, .return_, 1)]
theorem d_M_top (i : Nat) {w : Instr × Nat} (e : go_fd t_M_top i = some w) : decode c_M_top i = .ok w := go_fd_ok (tab := t_M_top) (by decide +kernel) e
abbrev c_M_trigger : ByteArray := prog_6_method_10_code
def y_M_trigger : MethodName := ⟨RM, "trigger", "(IIII)I"⟩
def t_M_trigger : List (Nat × Instr × Nat) := [(0, .iload_n 1, 1), (1, .iconst 0, 1), (2, .iconst 3, 1), (3, .invokestatic 73, 3), (6, .ifCond .eq 13, 3), (9, .iload_n 3, 1), (10, .iconst 0, 1), (11, .bipush 9, 2), (13, .invokestatic 73, 3), (16, .ifCond .ne 7, 3), (19, .iconst 1, 1), (20, .goto 4, 3), (23, .iconst 0, 1), (24, .istore 5, 2), (26, .iload_n 1, 1), (27, .ifCond .ne 13, 3), (30, .iload_n 2, 1), (31, .iconst 0, 1), (32, .bipush 99, 2), (34, .invokestatic 73, 3), (37, .goto 41, 3), (40, .iload_n 1, 1), (41, .iconst 1, 1), (42, .if_icmp .ne 14, 3), (45, .iload_n 2, 1), (46, .iconst 1, 1), (47, .sipush 1000, 3), (50, .invokestatic 73, 3), (53, .goto 25, 3), (56, .iload_n 1, 1), (57, .iconst 2, 1), (58, .if_icmp .ne 13, 3), (61, .iload_n 2, 1), (62, .iconst 1, 1), (63, .ldc 91, 2), (65, .invokestatic 73, 3), (68, .goto 10, 3), (71, .iload_n 2, 1), (72, .iconst 0, 1), (73, .bipush 9, 2), (75, .invokestatic 73, 3), (78, .istore 6, 2), (80, .aload_n 0, 1), (81, .iload 5, 2), (83, .iload 6, 2), (85, .ifCond .eq 14, 3), (88, .iload 4, 2), (90, .iconst 0, 1), (91, .ldc 91, 2), (93, .invokestatic 73, 3), (96, .ifCond .ne 7, 3), (99, .iconst 1, 1), (100, .goto 4, 3), (103, .iconst 0, 1), (104, .aload_n 0, 1), (105, .getfield 92, 3), (108, .bipush 20, 2), (110, .if_icmp .ne 7, 3), (113, .iconst 1, 1), (114, .goto 4, 3), (117, .iconst 0, 1), (118, .invokevirtual 84, 3), (121, .ifCond .eq 5, 3), (124, .iconst 0, 1), (125, .ireturn, 1), (126, .aload_n 0, 1), (127, .getfield 13, 3), (130, .aload_n 0, 1), (131, .getfield 92, 3), (134, .iload_n 1, 1), (135, .iastore, 1), (136, .aload_n 0, 1), (137, .getfield 16, 3), (140, .aload_n 0, 1), (141, .getfield 92, 3), (144, .iload_n 2, 1), (145, .iastore, 1), (146, .aload_n 0, 1), (147, .getfield 19, 3), (150, .aload_n 0, 1), (151, .getfield 92, 3), (154, .iload_n 3, 1), (155, .iastore, 1), (156, .aload_n 0, 1), (157, .getfield 22, 3), (160, .aload_n 0, 1), (161, .getfield 92, 3), (164, .iload 4, 2), (166, .iastore, 1), (167, .aload_n 0, 1), (168, .dup, 1), (169, .getfield 92, 3), (172, .iconst 1, 1), (173, .iadd, 1), (174, .putfield 92, 3), (177, .aload_n 0, 1), (178, .getfield 92, 3), (181, .iconst 1, 1), (182, .isub, 1), (183, .ireturn, 1)]
theorem d_M_trigger (i : Nat) {w : Instr × Nat} (e : go_fd t_M_trigger i = some w) : decode c_M_trigger i = .ok w := go_fd_ok (tab := t_M_trigger) (by decide +kernel) e
abbrev c_M_begin : ByteArray := prog_6_method_11_code
def y_M_begin : MethodName := ⟨RM, "begin", "()I"⟩
def t_M_begin : List (Nat × Instr × Nat) := [(0, .aload_n 0, 1), (1, .aload_n 0, 1), (2, .getfield 70, 3), (5, .bipush 12, 2), (7, .if_icmp .ne 7, 3), (10, .iconst 1, 1), (11, .goto 4, 3), (14, .iconst 0, 1), (15, .iconst 0, 1), (16, .iconst 0, 1), (17, .invokevirtual 84, 3), (20, .ifCond .eq 5, 3), (23, .iconst 0, 1), (24, .ireturn, 1), (25, .aload_n 0, 1), (26, .getfield 28, 3), (29, .aload_n 0, 1), (30, .getfield 70, 3), (33, .iconst 1, 1), (34, .bastore, 1), (35, .aload_n 0, 1), (36, .getfield 38, 3), (39, .aload_n 0, 1), (40, .getfield 70, 3), (43, .aload_n 0, 1), (44, .getfield 95, 3), (47, .iastore, 1), (48, .aload_n 0, 1), (49, .dup, 1), (50, .getfield 70, 3), (53, .iconst 1, 1), (54, .iadd, 1), (55, .putfield 70, 3), (58, .aload_n 0, 1), (59, .getfield 70, 3), (62, .iconst 1, 1), (63, .isub, 1), (64, .ireturn, 1)]
theorem d_M_begin (i : Nat) {w : Instr × Nat} (e : go_fd t_M_begin i = some w) : decode c_M_begin i = .ok w := go_fd_ok (tab := t_M_begin) (by decide +kernel) e
abbrev c_M_free : ByteArray := prog_6_method_12_code
def y_M_free : MethodName := ⟨RM, "free", "(I)V"⟩
def t_M_free : List (Nat × Instr × Nat) := [(0, .aload_n 0, 1), (1, .getfield 56, 3), (4, .iload_n 1, 1), (5, .iconst 0, 1), (6, .iastore, 1), (7, .aload_n 0, 1), (8, .getfield 59, 3), (11, .iload_n 1, 1), (12, .iconst (-1), 1), (13, .iastore, 1), (14, .aload_n 0, 1), (15, .getfield 62, 3), (18, .iload_n 1, 1), (19, .iconst (-1), 1), (20, .iastore, 1), (21, .return_, 1)]
theorem d_M_free (i : Nat) {w : Instr × Nat} (e : go_fd t_M_free i = some w) : decode c_M_free i = .ok w := go_fd_ok (tab := t_M_free) (by decide +kernel) e
abbrev c_M_isWith : ByteArray := prog_6_method_13_code
def y_M_isWith : MethodName := ⟨RM, "isWith", "(II)Z"⟩
def t_M_isWith : List (Nat × Instr × Nat) := [(0, .aload_n 0, 1), (1, .getfield 56, 3), (4, .iload_n 1, 1), (5, .iaload, 1), (6, .ifCond .eq 17, 3), (9, .aload_n 0, 1), (10, .getfield 59, 3), (13, .iload_n 1, 1), (14, .iaload, 1), (15, .iload_n 2, 1), (16, .if_icmp .ne 7, 3), (19, .iconst 1, 1), (20, .goto 4, 3), (23, .iconst 0, 1), (24, .ireturn, 1)]
theorem d_M_isWith (i : Nat) {w : Instr × Nat} (e : go_fd t_M_isWith i = some w) : decode c_M_isWith i = .ok w := go_fd_ok (tab := t_M_isWith) (by decide +kernel) e
abbrev c_M_close : ByteArray := prog_6_method_14_code
def y_M_close : MethodName := ⟨RM, "close", "(I)V"⟩
def t_M_close : List (Nat × Instr × Nat) := [(0, .aload_n 0, 1), (1, .aload_n 0, 1), (2, .iload_n 1, 1), (3, .invokevirtual 77, 3), (6, .ifCond .ne 7, 3), (9, .iconst 1, 1), (10, .goto 4, 3), (13, .iconst 0, 1), (14, .aload_n 0, 1), (15, .iload_n 1, 1), (16, .invokevirtual 98, 3), (19, .iconst 0, 1), (20, .invokevirtual 84, 3), (23, .ifCond .eq 4, 3), (26, .return_, 1), (27, .aload_n 0, 1), (28, .getfield 28, 3), (31, .iload_n 1, 1), (32, .iconst 0, 1), (33, .bastore, 1), (34, .iconst 0, 1), (35, .istore_n 2, 1), (36, .iload_n 2, 1), (37, .aload_n 0, 1), (38, .getfield 81, 3), (41, .if_icmp .ge 23, 3), (44, .aload_n 0, 1), (45, .iload_n 2, 1), (46, .iload_n 1, 1), (47, .invokevirtual 101, 3), (50, .ifCond .eq 8, 3), (53, .aload_n 0, 1), (54, .iload_n 2, 1), (55, .invokevirtual 105, 3), (58, .iinc 2 1, 3), (61, .goto (-25), 3), (64, .return_, 1)]
theorem d_M_close (i : Nat) {w : Instr × Nat} (e : go_fd t_M_close i = some w) : decode c_M_close i = .ok w := go_fd_ok (tab := t_M_close) (by decide +kernel) e
abbrev c_M_act : ByteArray := prog_6_method_15_code
def y_M_act : MethodName := ⟨RM, "act", "(II)I"⟩
def t_M_act : List (Nat × Instr × Nat) := [(0, .aload_n 0, 1), (1, .getfield 95, 3), (4, .aload_n 0, 1), (5, .getfield 50, 3), (8, .bipush 20, 2), (10, .iload_n 2, 1), (11, .imul, 1), (12, .iload_n 1, 1), (13, .iadd, 1), (14, .iaload, 1), (15, .isub, 1), (16, .aload_n 0, 1), (17, .getfield 22, 3), (20, .iload_n 1, 1), (21, .iaload, 1), (22, .if_icmp .ge 5, 3), (25, .iconst 0, 1), (26, .ireturn, 1), (27, .aload_n 0, 1), (28, .getfield 50, 3), (31, .bipush 20, 2), (33, .iload_n 2, 1), (34, .imul, 1), (35, .iload_n 1, 1), (36, .iadd, 1), (37, .aload_n 0, 1), (38, .getfield 95, 3), (41, .iastore, 1), (42, .aload_n 0, 1), (43, .getfield 25, 3), (46, .iload_n 1, 1), (47, .dup2, 1), (48, .iaload, 1), (49, .iconst 1, 1), (50, .iadd, 1), (51, .iastore, 1), (52, .aload_n 0, 1), (53, .getfield 41, 3), (56, .iload_n 2, 1), (57, .dup2, 1), (58, .iaload, 1), (59, .iconst 1, 1), (60, .iadd, 1), (61, .iastore, 1), (62, .aload_n 0, 1), (63, .getfield 19, 3), (66, .iload_n 1, 1), (67, .iaload, 1), (68, .aload_n 0, 1), (69, .getfield 88, 3), (72, .if_icmp .ge 12, 3), (75, .aload_n 0, 1), (76, .getfield 19, 3), (79, .iload_n 1, 1), (80, .iaload, 1), (81, .goto 7, 3), (84, .aload_n 0, 1), (85, .getfield 88, 3), (88, .istore_n 3, 1), (89, .iload_n 3, 1), (90, .aload_n 0, 1), (91, .getfield 32, 3), (94, .iload_n 2, 1), (95, .iaload, 1), (96, .if_icmp .le 23, 3), (99, .aload_n 0, 1), (100, .getfield 32, 3), (103, .iload_n 2, 1), (104, .iload_n 3, 1), (105, .iastore, 1), (106, .aload_n 0, 1), (107, .getfield 44, 3), (110, .iload_n 2, 1), (111, .dup2, 1), (112, .iaload, 1), (113, .iconst 1, 1), (114, .iadd, 1), (115, .iastore, 1), (116, .goto 13, 3), (119, .aload_n 0, 1), (120, .dup, 1), (121, .getfield 109, 3), (124, .iconst 1, 1), (125, .iadd, 1), (126, .putfield 109, 3), (129, .iconst 1, 1), (130, .ireturn, 1)]
theorem d_M_act (i : Nat) {w : Instr × Nat} (e : go_fd t_M_act i = some w) : decode c_M_act i = .ok w := go_fd_ok (tab := t_M_act) (by decide +kernel) e
abbrev c_M_all : ByteArray := prog_6_method_16_code
def y_M_all : MethodName := ⟨RM, "all", "(III)I"⟩
def t_M_all : List (Nat × Instr × Nat) := [(0, .iconst 0, 1), (1, .istore 4, 2), (3, .iconst 0, 1), (4, .istore 5, 2), (6, .iload 5, 2), (8, .aload_n 0, 1), (9, .getfield 92, 3), (12, .if_icmp .ge 47, 3), (15, .iload 4, 2), (17, .aload_n 0, 1), (18, .getfield 13, 3), (21, .iload 5, 2), (23, .iaload, 1), (24, .iload_n 1, 1), (25, .if_icmp .ne 24, 3), (28, .aload_n 0, 1), (29, .getfield 16, 3), (32, .iload 5, 2), (34, .iaload, 1), (35, .iload_n 2, 1), (36, .if_icmp .ne 13, 3), (39, .aload_n 0, 1), (40, .iload 5, 2), (42, .iload_n 3, 1), (43, .invokevirtual 112, 3), (46, .goto 4, 3), (49, .iconst 0, 1), (50, .iadd, 1), (51, .istore 4, 2), (53, .iinc 5 1, 3), (56, .goto (-50), 3), (59, .iload 4, 2), (61, .ireturn, 1)]
theorem d_M_all (i : Nat) {w : Instr × Nat} (e : go_fd t_M_all i = some w) : decode c_M_all i = .ok w := go_fd_ok (tab := t_M_all) (by decide +kernel) e
abbrev c_M_tick : ByteArray := prog_6_method_17_code
def y_M_tick : MethodName := ⟨RM, "tick", "(I)I"⟩
def t_M_tick : List (Nat × Instr × Nat) := [(0, .aload_n 0, 1), (1, .iload_n 1, 1), (2, .iconst 1, 1), (3, .sipush 5000, 3), (6, .invokestatic 73, 3), (9, .ifCond .eq 14, 3), (12, .aload_n 0, 1), (13, .getfield 95, 3), (16, .iload_n 1, 1), (17, .iadd, 1), (18, .ldc 116, 2), (20, .if_icmp .le 7, 3), (23, .iconst 1, 1), (24, .goto 4, 3), (27, .iconst 0, 1), (28, .iconst 0, 1), (29, .iconst 0, 1), (30, .invokevirtual 84, 3), (33, .ifCond .eq 5, 3), (36, .iconst 0, 1), (37, .ireturn, 1), (38, .iconst 0, 1), (39, .istore_n 2, 1), (40, .iconst 0, 1), (41, .istore_n 3, 1), (42, .iload_n 3, 1), (43, .iload_n 1, 1), (44, .if_icmp .ge 73, 3), (47, .aload_n 0, 1), (48, .dup, 1), (49, .getfield 95, 3), (52, .iconst 1, 1), (53, .iadd, 1), (54, .putfield 95, 3), (57, .iconst 0, 1), (58, .istore 4, 2), (60, .iload 4, 2), (62, .aload_n 0, 1), (63, .getfield 70, 3), (66, .if_icmp .ge 45, 3), (69, .iload_n 2, 1), (70, .aload_n 0, 1), (71, .getfield 28, 3), (74, .iload 4, 2), (76, .baload, 1), (77, .ifCond .eq 25, 3), (80, .aload_n 0, 1), (81, .iconst 2, 1), (82, .aload_n 0, 1), (83, .getfield 95, 3), (86, .aload_n 0, 1), (87, .getfield 38, 3), (90, .iload 4, 2), (92, .iaload, 1), (93, .isub, 1), (94, .iload 4, 2), (96, .invokevirtual 117, 3), (99, .goto 4, 3), (102, .iconst 0, 1), (103, .iadd, 1), (104, .istore_n 2, 1), (105, .iinc 4 1, 3), (108, .goto (-48), 3), (111, .iinc 3 1, 3), (114, .goto (-72), 3), (117, .iload_n 2, 1), (118, .ireturn, 1)]
theorem d_M_tick (i : Nat) {w : Instr × Nat} (e : go_fd t_M_tick i = some w) : decode c_M_tick i = .ok w := go_fd_ok (tab := t_M_tick) (by decide +kernel) e
abbrev c_M_word : ByteArray := prog_6_method_18_code
def y_M_word : MethodName := ⟨RM, "word", "(II)I"⟩
def t_M_word : List (Nat × Instr × Nat) := [(0, .aload_n 0, 1), (1, .aload_n 0, 1), (2, .iload_n 1, 1), (3, .invokevirtual 77, 3), (6, .ifCond .ne 7, 3), (9, .iconst 1, 1), (10, .goto 4, 3), (13, .iconst 0, 1), (14, .iload_n 2, 1), (15, .iconst 0, 1), (16, .bipush 99, 2), (18, .invokestatic 73, 3), (21, .ifCond .ne 7, 3), (24, .iconst 1, 1), (25, .goto 4, 3), (28, .iconst 0, 1), (29, .aload_n 0, 1), (30, .iload_n 1, 1), (31, .invokevirtual 98, 3), (34, .invokevirtual 84, 3), (37, .ifCond .eq 5, 3), (40, .iconst 0, 1), (41, .ireturn, 1), (42, .iconst 0, 1), (43, .istore_n 3, 1), (44, .iconst 0, 1), (45, .istore 4, 2), (47, .iload 4, 2), (49, .aload_n 0, 1), (50, .getfield 92, 3), (53, .if_icmp .ge 40, 3), (56, .iload_n 3, 1), (57, .ifCond .ne 24, 3), (60, .aload_n 0, 1), (61, .getfield 13, 3), (64, .iload 4, 2), (66, .iaload, 1), (67, .ifCond .ne 18, 3), (70, .aload_n 0, 1), (71, .getfield 16, 3), (74, .iload 4, 2), (76, .iaload, 1), (77, .iload_n 2, 1), (78, .if_icmp .ne 7, 3), (81, .iconst 1, 1), (82, .goto 4, 3), (85, .iconst 0, 1), (86, .istore_n 3, 1), (87, .iinc 4 1, 3), (90, .goto (-43), 3), (93, .aload_n 0, 1), (94, .dup, 1), (95, .getfield 121, 3), (98, .iload_n 3, 1), (99, .ifCond .eq 7, 3), (102, .iconst 0, 1), (103, .goto 4, 3), (106, .iconst 1, 1), (107, .iadd, 1), (108, .putfield 121, 3), (111, .aload_n 0, 1), (112, .iconst 0, 1), (113, .iload_n 2, 1), (114, .iload_n 1, 1), (115, .invokevirtual 117, 3), (118, .ireturn, 1)]
theorem d_M_word (i : Nat) {w : Instr × Nat} (e : go_fd t_M_word i = some w) : decode c_M_word i = .ok w := go_fd_ok (tab := t_M_word) (by decide +kernel) e
abbrev c_M_hurt : ByteArray := prog_6_method_19_code
def y_M_hurt : MethodName := ⟨RM, "hurt", "(II)I"⟩
def t_M_hurt : List (Nat × Instr × Nat) := [(0, .aload_n 0, 1), (1, .aload_n 0, 1), (2, .iload_n 1, 1), (3, .invokevirtual 77, 3), (6, .ifCond .ne 7, 3), (9, .iconst 1, 1), (10, .goto 4, 3), (13, .iconst 0, 1), (14, .iload_n 2, 1), (15, .iconst 0, 1), (16, .sipush 10000, 3), (19, .invokestatic 73, 3), (22, .ifCond .ne 7, 3), (25, .iconst 1, 1), (26, .goto 4, 3), (29, .iconst 0, 1), (30, .aload_n 0, 1), (31, .iload_n 1, 1), (32, .invokevirtual 98, 3), (35, .invokevirtual 84, 3), (38, .ifCond .eq 5, 3), (41, .iconst 0, 1), (42, .ireturn, 1), (43, .aload_n 0, 1), (44, .getfield 35, 3), (47, .iload_n 1, 1), (48, .iaload, 1), (49, .istore_n 3, 1), (50, .aload_n 0, 1), (51, .getfield 35, 3), (54, .iload_n 1, 1), (55, .iload_n 2, 1), (56, .iastore, 1), (57, .iconst 0, 1), (58, .istore 4, 2), (60, .iconst 0, 1), (61, .istore 5, 2), (63, .iload 5, 2), (65, .aload_n 0, 1), (66, .getfield 92, 3), (69, .if_icmp .ge 58, 3), (72, .iload 4, 2), (74, .aload_n 0, 1), (75, .getfield 13, 3), (78, .iload 5, 2), (80, .iaload, 1), (81, .iconst 1, 1), (82, .if_icmp .ne 35, 3), (85, .iload_n 3, 1), (86, .aload_n 0, 1), (87, .getfield 16, 3), (90, .iload 5, 2), (92, .iaload, 1), (93, .if_icmp .ge 24, 3), (96, .iload_n 2, 1), (97, .aload_n 0, 1), (98, .getfield 16, 3), (101, .iload 5, 2), (103, .iaload, 1), (104, .if_icmp .lt 13, 3), (107, .aload_n 0, 1), (108, .iload 5, 2), (110, .iload_n 1, 1), (111, .invokevirtual 112, 3), (114, .goto 4, 3), (117, .iconst 0, 1), (118, .iadd, 1), (119, .istore 4, 2), (121, .iinc 5 1, 3), (124, .goto (-61), 3), (127, .iload 4, 2), (129, .ireturn, 1)]
theorem d_M_hurt (i : Nat) {w : Instr × Nat} (e : go_fd t_M_hurt i = some w) : decode c_M_hurt i = .ok w := go_fd_ok (tab := t_M_hurt) (by decide +kernel) e
abbrev c_M_ask : ByteArray := prog_6_method_20_code
def y_M_ask : MethodName := ⟨RM, "ask", "(II)I"⟩
def t_M_ask : List (Nat × Instr × Nat) := [(0, .aload_n 0, 1), (1, .aload_n 0, 1), (2, .iload_n 1, 1), (3, .invokevirtual 77, 3), (6, .ifCond .ne 7, 3), (9, .iconst 1, 1), (10, .goto 4, 3), (13, .iconst 0, 1), (14, .iload_n 2, 1), (15, .iconst 0, 1), (16, .bipush 9, 2), (18, .invokestatic 73, 3), (21, .ifCond .ne 7, 3), (24, .iconst 1, 1), (25, .goto 4, 3), (28, .iconst 0, 1), (29, .aload_n 0, 1), (30, .iload_n 1, 1), (31, .invokevirtual 98, 3), (34, .invokevirtual 84, 3), (37, .ifCond .eq 5, 3), (40, .iconst 0, 1), (41, .ireturn, 1), (42, .aload_n 0, 1), (43, .iconst 3, 1), (44, .iload_n 2, 1), (45, .iload_n 1, 1), (46, .invokevirtual 117, 3), (49, .ireturn, 1)]
theorem d_M_ask (i : Nat) {w : Instr × Nat} (e : go_fd t_M_ask i = some w) : decode c_M_ask i = .ok w := go_fd_ok (tab := t_M_ask) (by decide +kernel) e
abbrev c_M_tell : ByteArray := prog_6_method_21_code
def y_M_tell : MethodName := ⟨RM, "tell", "(I)V"⟩
def t_M_tell : List (Nat × Instr × Nat) := [(0, .aload_n 0, 1), (1, .aload_n 0, 1), (2, .iload_n 1, 1), (3, .invokevirtual 77, 3), (6, .ifCond .ne 7, 3), (9, .iconst 1, 1), (10, .goto 4, 3), (13, .iconst 0, 1), (14, .aload_n 0, 1), (15, .iload_n 1, 1), (16, .invokevirtual 98, 3), (19, .iconst 0, 1), (20, .invokevirtual 84, 3), (23, .ifCond .eq 4, 3), (26, .return_, 1), (27, .aload_n 0, 1), (28, .getfield 38, 3), (31, .iload_n 1, 1), (32, .aload_n 0, 1), (33, .getfield 95, 3), (36, .iastore, 1), (37, .return_, 1)]
theorem d_M_tell (i : Nat) {w : Instr × Nat} (e : go_fd t_M_tell i = some w) : decode c_M_tell i = .ok w := go_fd_ok (tab := t_M_tell) (by decide +kernel) e
abbrev c_M_withSkill : ByteArray := prog_6_method_22_code
def y_M_withSkill : MethodName := ⟨RM, "withSkill", "(II)I"⟩
def t_M_withSkill : List (Nat × Instr × Nat) := [(0, .iconst 0, 1), (1, .istore_n 3, 1), (2, .iconst 0, 1), (3, .istore 4, 2), (5, .iload 4, 2), (7, .aload_n 0, 1), (8, .getfield 81, 3), (11, .if_icmp .ge 38, 3), (14, .iload_n 3, 1), (15, .aload_n 0, 1), (16, .iload 4, 2), (18, .iload_n 1, 1), (19, .invokevirtual 101, 3), (22, .ifCond .eq 18, 3), (25, .aload_n 0, 1), (26, .getfield 53, 3), (29, .iload 4, 2), (31, .iaload, 1), (32, .iload_n 2, 1), (33, .if_icmp .ne 7, 3), (36, .iconst 1, 1), (37, .goto 4, 3), (40, .iconst 0, 1), (41, .iadd, 1), (42, .istore_n 3, 1), (43, .iinc 4 1, 3), (46, .goto (-41), 3), (49, .iload_n 3, 1), (50, .ireturn, 1)]
theorem d_M_withSkill (i : Nat) {w : Instr × Nat} (e : go_fd t_M_withSkill i = some w) : decode c_M_withSkill i = .ok w := go_fd_ok (tab := t_M_withSkill) (by decide +kernel) e
abbrev c_M_goesAhead : ByteArray := prog_6_method_23_code
def y_M_goesAhead : MethodName := ⟨RM, "goesAhead", "(II)Z"⟩
def t_M_goesAhead : List (Nat × Instr × Nat) := [(0, .aload_n 0, 1), (1, .getfield 56, 3), (4, .iload_n 1, 1), (5, .iaload, 1), (6, .aload_n 0, 1), (7, .getfield 56, 3), (10, .iload_n 2, 1), (11, .iaload, 1), (12, .if_icmp .eq 19, 3), (15, .aload_n 0, 1), (16, .getfield 56, 3), (19, .iload_n 1, 1), (20, .iaload, 1), (21, .iconst 1, 1), (22, .if_icmp .ne 7, 3), (25, .iconst 1, 1), (26, .goto 4, 3), (29, .iconst 0, 1), (30, .ireturn, 1), (31, .aload_n 0, 1), (32, .getfield 62, 3), (35, .iload_n 1, 1), (36, .iaload, 1), (37, .aload_n 0, 1), (38, .getfield 62, 3), (41, .iload_n 2, 1), (42, .iaload, 1), (43, .if_icmp .gt 23, 3), (46, .aload_n 0, 1), (47, .getfield 62, 3), (50, .iload_n 1, 1), (51, .iaload, 1), (52, .aload_n 0, 1), (53, .getfield 62, 3), (56, .iload_n 2, 1), (57, .iaload, 1), (58, .if_icmp .ne 12, 3), (61, .iload_n 1, 1), (62, .iload_n 2, 1), (63, .if_icmp .le 7, 3), (66, .iconst 1, 1), (67, .goto 4, 3), (70, .iconst 0, 1), (71, .ireturn, 1)]
theorem d_M_goesAhead (i : Nat) {w : Instr × Nat} (e : go_fd t_M_goesAhead i = some w) : decode c_M_goesAhead i = .ok w := go_fd_ok (tab := t_M_goesAhead) (by decide +kernel) e
abbrev c_M_calm : ByteArray := prog_6_method_24_code
def y_M_calm : MethodName := ⟨RM, "calm", "(II)I"⟩
def t_M_calm : List (Nat × Instr × Nat) := [(0, .aload_n 0, 1), (1, .iload_n 1, 1), (2, .invokevirtual 77, 3), (5, .ifCond .eq 13, 3), (8, .iload_n 2, 1), (9, .iconst 0, 1), (10, .bipush 9, 2), (12, .invokestatic 73, 3), (15, .ifCond .ne 7, 3), (18, .iconst 1, 1), (19, .goto 4, 3), (22, .iconst 0, 1), (23, .istore_n 3, 1), (24, .aload_n 0, 1), (25, .iload_n 3, 1), (26, .iload_n 3, 1), (27, .ifCond .ne 26, 3), (30, .aload_n 0, 1), (31, .getfield 28, 3), (34, .iload_n 1, 1), (35, .baload, 1), (36, .ifCond .eq 13, 3), (39, .aload_n 0, 1), (40, .getfield 32, 3), (43, .iload_n 1, 1), (44, .iaload, 1), (45, .iload_n 2, 1), (46, .if_icmp .gt 7, 3), (49, .iconst 1, 1), (50, .goto 4, 3), (53, .iconst 0, 1), (54, .iconst 0, 1), (55, .invokevirtual 84, 3), (58, .ifCond .eq 5, 3), (61, .iconst 0, 1), (62, .ireturn, 1), (63, .aload_n 0, 1), (64, .getfield 32, 3), (67, .iload_n 1, 1), (68, .iload_n 2, 1), (69, .iastore, 1), (70, .aload_n 0, 1), (71, .getfield 47, 3), (74, .iload_n 1, 1), (75, .dup2, 1), (76, .iaload, 1), (77, .iconst 1, 1), (78, .iadd, 1), (79, .iastore, 1), (80, .iconst 0, 1), (81, .istore 4, 2), (83, .iconst 0, 1), (84, .istore 5, 2), (86, .iload 5, 2), (88, .bipush 8, 2), (90, .if_icmp .ge 106, 3), (93, .aload_n 0, 1), (94, .iload_n 1, 1), (95, .iload 5, 2), (97, .invokevirtual 124, 3), (100, .aload_n 0, 1), (101, .getfield 7, 3), (104, .bipush 8, 2), (106, .iload_n 2, 1), (107, .imul, 1), (108, .iload 5, 2), (110, .iadd, 1), (111, .iaload, 1), (112, .if_icmp .le 78, 3), (115, .iconst (-1), 1), (116, .istore 6, 2), (118, .iconst 0, 1), (119, .istore 7, 2), (121, .iload 7, 2), (123, .aload_n 0, 1), (124, .getfield 81, 3), (127, .if_icmp .ge 51, 3), (130, .aload_n 0, 1), (131, .iload 7, 2), (133, .iload_n 1, 1), (134, .invokevirtual 101, 3), (137, .ifCond .eq 35, 3), (140, .aload_n 0, 1), (141, .getfield 53, 3), (144, .iload 7, 2), (146, .iaload, 1), (147, .iload 5, 2), (149, .if_icmp .ne 23, 3), (152, .iload 6, 2), (154, .ifCond .lt 14, 3), (157, .aload_n 0, 1), (158, .iload 7, 2), (160, .iload 6, 2), (162, .invokevirtual 127, 3), (165, .ifCond .eq 7, 3), (168, .iload 7, 2), (170, .istore 6, 2), (172, .iinc 7 1, 3), (175, .goto (-54), 3), (178, .aload_n 0, 1), (179, .iload 6, 2), (181, .invokevirtual 105, 3), (184, .iinc 4 1, 3), (187, .goto (-94), 3), (190, .iinc 5 1, 3), (193, .goto (-107), 3), (196, .aload_n 0, 1), (197, .dup, 1), (198, .getfield 130, 3), (201, .iload 4, 2), (203, .iadd, 1), (204, .putfield 130, 3), (207, .iload 4, 2), (209, .ireturn, 1)]
theorem d_M_calm (i : Nat) {w : Instr × Nat} (e : go_fd t_M_calm i = some w) : decode c_M_calm i = .ok w := go_fd_ok (tab := t_M_calm) (by decide +kernel) e
abbrev c_M_unit : ByteArray := prog_6_method_25_code
def y_M_unit : MethodName := ⟨RM, "unit", "(I)I"⟩
def t_M_unit : List (Nat × Instr × Nat) := [(0, .aload_n 0, 1), (1, .iload_n 1, 1), (2, .iconst 0, 1), (3, .bipush 7, 2), (5, .invokestatic 73, 3), (8, .ifCond .ne 7, 3), (11, .iconst 1, 1), (12, .goto 4, 3), (15, .iconst 0, 1), (16, .aload_n 0, 1), (17, .getfield 81, 3), (20, .bipush 40, 2), (22, .if_icmp .ne 7, 3), (25, .iconst 1, 1), (26, .goto 4, 3), (29, .iconst 0, 1), (30, .iconst 0, 1), (31, .invokevirtual 84, 3), (34, .ifCond .eq 5, 3), (37, .iconst 0, 1), (38, .ireturn, 1), (39, .aload_n 0, 1), (40, .getfield 53, 3), (43, .aload_n 0, 1), (44, .getfield 81, 3), (47, .iload_n 1, 1), (48, .iastore, 1), (49, .aload_n 0, 1), (50, .aload_n 0, 1), (51, .getfield 81, 3), (54, .invokevirtual 105, 3), (57, .aload_n 0, 1), (58, .dup, 1), (59, .getfield 81, 3), (62, .iconst 1, 1), (63, .iadd, 1), (64, .putfield 81, 3), (67, .aload_n 0, 1), (68, .getfield 81, 3), (71, .iconst 1, 1), (72, .isub, 1), (73, .ireturn, 1)]
theorem d_M_unit (i : Nat) {w : Instr × Nat} (e : go_fd t_M_unit i = some w) : decode c_M_unit i = .ok w := go_fd_ok (tab := t_M_unit) (by decide +kernel) e
abbrev c_M_go : ByteArray := prog_6_method_26_code
def y_M_go : MethodName := ⟨RM, "go", "(III)V"⟩
def t_M_go : List (Nat × Instr × Nat) := [(0, .aload_n 0, 1), (1, .iload_n 1, 1), (2, .invokevirtual 133, 3), (5, .ifCond .eq 11, 3), (8, .aload_n 0, 1), (9, .iload_n 2, 1), (10, .invokevirtual 77, 3), (13, .ifCond .ne 7, 3), (16, .iconst 1, 1), (17, .goto 4, 3), (20, .iconst 0, 1), (21, .istore 4, 2), (23, .aload_n 0, 1), (24, .iload 4, 2), (26, .iload_n 3, 1), (27, .iconst 0, 1), (28, .ldc 136, 2), (30, .invokestatic 73, 3), (33, .ifCond .ne 7, 3), (36, .iconst 1, 1), (37, .goto 4, 3), (40, .iconst 0, 1), (41, .iload 4, 2), (43, .ifCond .ne 25, 3), (46, .aload_n 0, 1), (47, .getfield 56, 3), (50, .iload_n 1, 1), (51, .iaload, 1), (52, .ifCond .ne 12, 3), (55, .aload_n 0, 1), (56, .getfield 28, 3), (59, .iload_n 2, 1), (60, .baload, 1), (61, .ifCond .ne 7, 3), (64, .iconst 1, 1), (65, .goto 4, 3), (68, .iconst 0, 1), (69, .invokevirtual 84, 3), (72, .ifCond .eq 4, 3), (75, .return_, 1), (76, .aload_n 0, 1), (77, .getfield 56, 3), (80, .iload_n 1, 1), (81, .iconst 1, 1), (82, .iastore, 1), (83, .aload_n 0, 1), (84, .getfield 59, 3), (87, .iload_n 1, 1), (88, .iload_n 2, 1), (89, .iastore, 1), (90, .aload_n 0, 1), (91, .getfield 62, 3), (94, .iload_n 1, 1), (95, .iload_n 3, 1), (96, .iastore, 1), (97, .return_, 1)]
theorem d_M_go (i : Nat) {w : Instr × Nat} (e : go_fd t_M_go i = some w) : decode c_M_go i = .ok w := go_fd_ok (tab := t_M_go) (by decide +kernel) e
abbrev c_M_arrive : ByteArray := prog_6_method_27_code
def y_M_arrive : MethodName := ⟨RM, "arrive", "(I)V"⟩
def t_M_arrive : List (Nat × Instr × Nat) := [(0, .aload_n 0, 1), (1, .iload_n 1, 1), (2, .invokevirtual 133, 3), (5, .ifCond .ne 7, 3), (8, .iconst 1, 1), (9, .goto 4, 3), (12, .iconst 0, 1), (13, .istore_n 2, 1), (14, .aload_n 0, 1), (15, .iload_n 2, 1), (16, .iload_n 2, 1), (17, .ifCond .ne 17, 3), (20, .aload_n 0, 1), (21, .getfield 56, 3), (24, .iload_n 1, 1), (25, .iaload, 1), (26, .iconst 1, 1), (27, .if_icmp .eq 7, 3), (30, .iconst 1, 1), (31, .goto 4, 3), (34, .iconst 0, 1), (35, .iconst 0, 1), (36, .invokevirtual 84, 3), (39, .ifCond .eq 4, 3), (42, .return_, 1), (43, .aload_n 0, 1), (44, .getfield 56, 3), (47, .iload_n 1, 1), (48, .iconst 2, 1), (49, .iastore, 1), (50, .return_, 1)]
theorem d_M_arrive (i : Nat) {w : Instr × Nat} (e : go_fd t_M_arrive i = some w) : decode c_M_arrive i = .ok w := go_fd_ok (tab := t_M_arrive) (by decide +kernel) e
abbrev c_M_needed : ByteArray := prog_6_method_28_code
def y_M_needed : MethodName := ⟨RM, "needed", "(II)I"⟩
def t_M_needed : List (Nat × Instr × Nat) := [(0, .aload_n 0, 1), (1, .iload_n 1, 1), (2, .invokevirtual 77, 3), (5, .ifCond .eq 13, 3), (8, .iload_n 2, 1), (9, .iconst 0, 1), (10, .bipush 7, 2), (12, .invokestatic 73, 3), (15, .ifCond .ne 7, 3), (18, .iconst 1, 1), (19, .goto 4, 3), (22, .iconst 0, 1), (23, .istore_n 3, 1), (24, .aload_n 0, 1), (25, .iload_n 3, 1), (26, .iload_n 3, 1), (27, .ifCond .ne 16, 3), (30, .aload_n 0, 1), (31, .getfield 28, 3), (34, .iload_n 1, 1), (35, .baload, 1), (36, .ifCond .ne 7, 3), (39, .iconst 1, 1), (40, .goto 4, 3), (43, .iconst 0, 1), (44, .iconst 0, 1), (45, .invokevirtual 84, 3), (48, .ifCond .eq 5, 3), (51, .iconst 0, 1), (52, .ireturn, 1), (53, .aload_n 0, 1), (54, .getfield 7, 3), (57, .bipush 8, 2), (59, .aload_n 0, 1), (60, .getfield 32, 3), (63, .iload_n 1, 1), (64, .iaload, 1), (65, .imul, 1), (66, .iload_n 2, 1), (67, .iadd, 1), (68, .iaload, 1), (69, .aload_n 0, 1), (70, .iload_n 1, 1), (71, .iload_n 2, 1), (72, .invokevirtual 124, 3), (75, .isub, 1), (76, .ireturn, 1)]
theorem d_M_needed (i : Nat) {w : Instr × Nat} (e : go_fd t_M_needed i = some w) : decode c_M_needed i = .ok w := go_fd_ok (tab := t_M_needed) (by decide +kernel) e
abbrev c_M_incident : ByteArray := prog_6_method_29_code
def y_M_incident : MethodName := ⟨RM, "incident", "(II)I"⟩
def t_M_incident : List (Nat × Instr × Nat) := [(0, .aload_n 0, 1), (1, .aload_n 0, 1), (2, .iload_n 1, 1), (3, .invokevirtual 77, 3), (6, .ifCond .eq 13, 3), (9, .iload_n 2, 1), (10, .iconst 0, 1), (11, .bipush 6, 2), (13, .invokestatic 73, 3), (16, .ifCond .ne 7, 3), (19, .iconst 1, 1), (20, .goto 4, 3), (23, .iconst 0, 1), (24, .iconst 0, 1), (25, .iconst 0, 1), (26, .invokevirtual 84, 3), (29, .ifCond .eq 5, 3), (32, .iconst 0, 1), (33, .ireturn, 1), (34, .iload_n 2, 1), (35, .tableswitch 87 0 5 #[37, 44, 59, 66, 73, 80], 37), (72, .aload_n 0, 1), (73, .getfield 32, 3), (76, .iload_n 1, 1), (77, .iaload, 1), (78, .ireturn, 1), (79, .aload_n 0, 1), (80, .getfield 28, 3), (83, .iload_n 1, 1), (84, .baload, 1), (85, .ifCond .eq 7, 3), (88, .iconst 1, 1), (89, .goto 4, 3), (92, .iconst 0, 1), (93, .ireturn, 1), (94, .aload_n 0, 1), (95, .getfield 35, 3), (98, .iload_n 1, 1), (99, .iaload, 1), (100, .ireturn, 1), (101, .aload_n 0, 1), (102, .getfield 38, 3), (105, .iload_n 1, 1), (106, .iaload, 1), (107, .ireturn, 1), (108, .aload_n 0, 1), (109, .getfield 41, 3), (112, .iload_n 1, 1), (113, .iaload, 1), (114, .ireturn, 1), (115, .aload_n 0, 1), (116, .getfield 44, 3), (119, .iload_n 1, 1), (120, .iaload, 1), (121, .ireturn, 1), (122, .aload_n 0, 1), (123, .getfield 47, 3), (126, .iload_n 1, 1), (127, .iaload, 1), (128, .ireturn, 1)]
theorem d_M_incident (i : Nat) {w : Instr × Nat} (e : go_fd t_M_incident i = some w) : decode c_M_incident i = .ok w := go_fd_ok (tab := t_M_incident) (by decide +kernel) e
abbrev c_M_unitAt : ByteArray := prog_6_method_30_code
def y_M_unitAt : MethodName := ⟨RM, "unitAt", "(II)I"⟩
def t_M_unitAt : List (Nat × Instr × Nat) := [(0, .aload_n 0, 1), (1, .aload_n 0, 1), (2, .iload_n 1, 1), (3, .invokevirtual 133, 3), (6, .ifCond .eq 12, 3), (9, .iload_n 2, 1), (10, .iconst 0, 1), (11, .iconst 2, 1), (12, .invokestatic 73, 3), (15, .ifCond .ne 7, 3), (18, .iconst 1, 1), (19, .goto 4, 3), (22, .iconst 0, 1), (23, .iconst 0, 1), (24, .iconst 0, 1), (25, .invokevirtual 84, 3), (28, .ifCond .eq 5, 3), (31, .iconst 0, 1), (32, .ireturn, 1), (33, .iload_n 2, 1), (34, .ifCond .ne 12, 3), (37, .aload_n 0, 1), (38, .getfield 56, 3), (41, .iload_n 1, 1), (42, .iaload, 1), (43, .goto 23, 3), (46, .iload_n 2, 1), (47, .iconst 1, 1), (48, .if_icmp .ne 12, 3), (51, .aload_n 0, 1), (52, .getfield 59, 3), (55, .iload_n 1, 1), (56, .iaload, 1), (57, .goto 9, 3), (60, .aload_n 0, 1), (61, .getfield 62, 3), (64, .iload_n 1, 1), (65, .iaload, 1), (66, .ireturn, 1)]
theorem d_M_unitAt (i : Nat) {w : Instr × Nat} (e : go_fd t_M_unitAt i = some w) : decode c_M_unitAt i = .ok w := go_fd_ok (tab := t_M_unitAt) (by decide +kernel) e
abbrev c_M_acted : ByteArray := prog_6_method_31_code
def y_M_acted : MethodName := ⟨RM, "acted", "(I)I"⟩
def t_M_acted : List (Nat × Instr × Nat) := [(0, .aload_n 0, 1), (1, .iload_n 1, 1), (2, .iconst 0, 1), (3, .aload_n 0, 1), (4, .getfield 92, 3), (7, .iconst 1, 1), (8, .isub, 1), (9, .invokestatic 73, 3), (12, .ifCond .ne 7, 3), (15, .iconst 1, 1), (16, .goto 4, 3), (19, .iconst 0, 1), (20, .iconst 0, 1), (21, .iconst 0, 1), (22, .invokevirtual 84, 3), (25, .ifCond .eq 5, 3), (28, .iconst 0, 1), (29, .ireturn, 1), (30, .aload_n 0, 1), (31, .getfield 25, 3), (34, .iload_n 1, 1), (35, .iaload, 1), (36, .ireturn, 1)]
theorem d_M_acted (i : Nat) {w : Instr × Nat} (e : go_fd t_M_acted i = some w) : decode c_M_acted i = .ok w := go_fd_ok (tab := t_M_acted) (by decide +kernel) e
abbrev c_M_count : ByteArray := prog_6_method_32_code
def y_M_count : MethodName := ⟨RM, "count", "(I)I"⟩
def t_M_count : List (Nat × Instr × Nat) := [(0, .aload_n 0, 1), (1, .iload_n 1, 1), (2, .iconst 0, 1), (3, .iconst 3, 1), (4, .invokestatic 73, 3), (7, .ifCond .ne 7, 3), (10, .iconst 1, 1), (11, .goto 4, 3), (14, .iconst 0, 1), (15, .iconst 0, 1), (16, .iconst 0, 1), (17, .invokevirtual 84, 3), (20, .ifCond .eq 5, 3), (23, .iconst 0, 1), (24, .ireturn, 1), (25, .iload_n 1, 1), (26, .ifCond .ne 10, 3), (29, .aload_n 0, 1), (30, .getfield 95, 3), (33, .goto 31, 3), (36, .iload_n 1, 1), (37, .iconst 1, 1), (38, .if_icmp .ne 10, 3), (41, .aload_n 0, 1), (42, .getfield 121, 3), (45, .goto 19, 3), (48, .iload_n 1, 1), (49, .iconst 2, 1), (50, .if_icmp .ne 10, 3), (53, .aload_n 0, 1), (54, .getfield 130, 3), (57, .goto 7, 3), (60, .aload_n 0, 1), (61, .getfield 109, 3), (64, .ireturn, 1)]
theorem d_M_count (i : Nat) {w : Instr × Nat} (e : go_fd t_M_count i = some w) : decode c_M_count i = .ok w := go_fd_ok (tab := t_M_count) (by decide +kernel) e
abbrev c_L_row : ByteArray := method_3_code
def y_L_row : MethodName := ⟨RL, "row", "(LSecondWaves;III)I"⟩
def t_L_row : List (Nat × Instr × Nat) := [(0, .aload_n 0, 1), (1, .iload_n 1, 1), (2, .iload_n 2, 1), (3, .iload_n 3, 1), (4, .invokevirtual 7, 3), (7, .goto 11, 3), (10, .astore 4, 2), (12, .iconst 1, 1), (13, .ireturn, 1), (14, .astore 4, 2), (16, .iconst 2, 1), (17, .ireturn, 1), (18, .iconst 0, 1), (19, .ireturn, 1)]
theorem d_L_row (i : Nat) {w : Instr × Nat} (e : go_fd t_L_row i = some w) : decode c_L_row i = .ok w := go_fd_ok (tab := t_L_row) (by decide +kernel) e
abbrev c_L_top : ByteArray := method_4_code
def y_L_top : MethodName := ⟨RL, "top", "(LSecondWaves;I)I"⟩
def t_L_top : List (Nat × Instr × Nat) := [(0, .aload_n 0, 1), (1, .iload_n 1, 1), (2, .invokevirtual 17, 3), (5, .goto 9, 3), (8, .astore_n 2, 1), (9, .iconst 1, 1), (10, .ireturn, 1), (11, .astore_n 2, 1), (12, .iconst 2, 1), (13, .ireturn, 1), (14, .iconst 0, 1), (15, .ireturn, 1)]
theorem d_L_top (i : Nat) {w : Instr × Nat} (e : go_fd t_L_top i = some w) : decode c_L_top i = .ok w := go_fd_ok (tab := t_L_top) (by decide +kernel) e
abbrev c_L_trigger : ByteArray := method_5_code
def y_L_trigger : MethodName := ⟨RL, "trigger", "(LSecondWaves;IIII[J)I"⟩
def t_L_trigger : List (Nat × Instr × Nat) := [(0, .aload 5, 2), (2, .iconst 0, 1), (3, .aload_n 0, 1), (4, .iload_n 1, 1), (5, .iload_n 2, 1), (6, .iload_n 3, 1), (7, .iload 4, 2), (9, .invokevirtual 23, 3), (12, .i2l, 1), (13, .lastore, 1), (14, .goto 15, 3), (17, .astore 6, 2), (19, .iconst 1, 1), (20, .ireturn, 1), (21, .astore 6, 2), (23, .iconst 2, 1), (24, .ireturn, 1), (25, .astore 6, 2), (27, .iconst 3, 1), (28, .ireturn, 1), (29, .iconst 0, 1), (30, .ireturn, 1)]
theorem d_L_trigger (i : Nat) {w : Instr × Nat} (e : go_fd t_L_trigger i = some w) : decode c_L_trigger i = .ok w := go_fd_ok (tab := t_L_trigger) (by decide +kernel) e
abbrev c_L_begin : ByteArray := method_6_code
def y_L_begin : MethodName := ⟨RL, "begin", "(LSecondWaves;[J)I"⟩
def t_L_begin : List (Nat × Instr × Nat) := [(0, .aload_n 1, 1), (1, .iconst 0, 1), (2, .aload_n 0, 1), (3, .invokevirtual 29, 3), (6, .i2l, 1), (7, .lastore, 1), (8, .goto 6, 3), (11, .astore_n 2, 1), (12, .iconst 1, 1), (13, .ireturn, 1), (14, .iconst 0, 1), (15, .ireturn, 1)]
theorem d_L_begin (i : Nat) {w : Instr × Nat} (e : go_fd t_L_begin i = some w) : decode c_L_begin i = .ok w := go_fd_ok (tab := t_L_begin) (by decide +kernel) e
abbrev c_L_close : ByteArray := method_7_code
def y_L_close : MethodName := ⟨RL, "close", "(LSecondWaves;I)I"⟩
def t_L_close : List (Nat × Instr × Nat) := [(0, .aload_n 0, 1), (1, .iload_n 1, 1), (2, .invokevirtual 33, 3), (5, .goto 9, 3), (8, .astore_n 2, 1), (9, .iconst 1, 1), (10, .ireturn, 1), (11, .astore_n 2, 1), (12, .iconst 2, 1), (13, .ireturn, 1), (14, .iconst 0, 1), (15, .ireturn, 1)]
theorem d_L_close (i : Nat) {w : Instr × Nat} (e : go_fd t_L_close i = some w) : decode c_L_close i = .ok w := go_fd_ok (tab := t_L_close) (by decide +kernel) e
abbrev c_L_tick : ByteArray := method_8_code
def y_L_tick : MethodName := ⟨RL, "tick", "(LSecondWaves;I[J)I"⟩
def t_L_tick : List (Nat × Instr × Nat) := [(0, .aload_n 2, 1), (1, .iconst 0, 1), (2, .aload_n 0, 1), (3, .iload_n 1, 1), (4, .invokevirtual 36, 3), (7, .i2l, 1), (8, .lastore, 1), (9, .goto 6, 3), (12, .astore_n 3, 1), (13, .iconst 1, 1), (14, .ireturn, 1), (15, .iconst 0, 1), (16, .ireturn, 1)]
theorem d_L_tick (i : Nat) {w : Instr × Nat} (e : go_fd t_L_tick i = some w) : decode c_L_tick i = .ok w := go_fd_ok (tab := t_L_tick) (by decide +kernel) e
abbrev c_L_word : ByteArray := method_9_code
def y_L_word : MethodName := ⟨RL, "word", "(LSecondWaves;II[J)I"⟩
def t_L_word : List (Nat × Instr × Nat) := [(0, .aload_n 3, 1), (1, .iconst 0, 1), (2, .aload_n 0, 1), (3, .iload_n 1, 1), (4, .iload_n 2, 1), (5, .invokevirtual 40, 3), (8, .i2l, 1), (9, .lastore, 1), (10, .goto 15, 3), (13, .astore 4, 2), (15, .iconst 1, 1), (16, .ireturn, 1), (17, .astore 4, 2), (19, .iconst 2, 1), (20, .ireturn, 1), (21, .astore 4, 2), (23, .iconst 3, 1), (24, .ireturn, 1), (25, .iconst 0, 1), (26, .ireturn, 1)]
theorem d_L_word (i : Nat) {w : Instr × Nat} (e : go_fd t_L_word i = some w) : decode c_L_word i = .ok w := go_fd_ok (tab := t_L_word) (by decide +kernel) e
abbrev c_L_hurt : ByteArray := method_10_code
def y_L_hurt : MethodName := ⟨RL, "hurt", "(LSecondWaves;II[J)I"⟩
def t_L_hurt : List (Nat × Instr × Nat) := [(0, .aload_n 3, 1), (1, .iconst 0, 1), (2, .aload_n 0, 1), (3, .iload_n 1, 1), (4, .iload_n 2, 1), (5, .invokevirtual 44, 3), (8, .i2l, 1), (9, .lastore, 1), (10, .goto 15, 3), (13, .astore 4, 2), (15, .iconst 1, 1), (16, .ireturn, 1), (17, .astore 4, 2), (19, .iconst 2, 1), (20, .ireturn, 1), (21, .astore 4, 2), (23, .iconst 3, 1), (24, .ireturn, 1), (25, .iconst 0, 1), (26, .ireturn, 1)]
theorem d_L_hurt (i : Nat) {w : Instr × Nat} (e : go_fd t_L_hurt i = some w) : decode c_L_hurt i = .ok w := go_fd_ok (tab := t_L_hurt) (by decide +kernel) e
abbrev c_L_ask : ByteArray := method_11_code
def y_L_ask : MethodName := ⟨RL, "ask", "(LSecondWaves;II[J)I"⟩
def t_L_ask : List (Nat × Instr × Nat) := [(0, .aload_n 3, 1), (1, .iconst 0, 1), (2, .aload_n 0, 1), (3, .iload_n 1, 1), (4, .iload_n 2, 1), (5, .invokevirtual 47, 3), (8, .i2l, 1), (9, .lastore, 1), (10, .goto 15, 3), (13, .astore 4, 2), (15, .iconst 1, 1), (16, .ireturn, 1), (17, .astore 4, 2), (19, .iconst 2, 1), (20, .ireturn, 1), (21, .astore 4, 2), (23, .iconst 3, 1), (24, .ireturn, 1), (25, .iconst 0, 1), (26, .ireturn, 1)]
theorem d_L_ask (i : Nat) {w : Instr × Nat} (e : go_fd t_L_ask i = some w) : decode c_L_ask i = .ok w := go_fd_ok (tab := t_L_ask) (by decide +kernel) e
abbrev c_L_tell : ByteArray := method_12_code
def y_L_tell : MethodName := ⟨RL, "tell", "(LSecondWaves;I)I"⟩
def t_L_tell : List (Nat × Instr × Nat) := [(0, .aload_n 0, 1), (1, .iload_n 1, 1), (2, .invokevirtual 50, 3), (5, .goto 9, 3), (8, .astore_n 2, 1), (9, .iconst 1, 1), (10, .ireturn, 1), (11, .astore_n 2, 1), (12, .iconst 2, 1), (13, .ireturn, 1), (14, .iconst 0, 1), (15, .ireturn, 1)]
theorem d_L_tell (i : Nat) {w : Instr × Nat} (e : go_fd t_L_tell i = some w) : decode c_L_tell i = .ok w := go_fd_ok (tab := t_L_tell) (by decide +kernel) e
abbrev c_L_calm : ByteArray := method_13_code
def y_L_calm : MethodName := ⟨RL, "calm", "(LSecondWaves;II[J)I"⟩
def t_L_calm : List (Nat × Instr × Nat) := [(0, .aload_n 3, 1), (1, .iconst 0, 1), (2, .aload_n 0, 1), (3, .iload_n 1, 1), (4, .iload_n 2, 1), (5, .invokevirtual 53, 3), (8, .i2l, 1), (9, .lastore, 1), (10, .goto 11, 3), (13, .astore 4, 2), (15, .iconst 1, 1), (16, .ireturn, 1), (17, .astore 4, 2), (19, .iconst 2, 1), (20, .ireturn, 1), (21, .iconst 0, 1), (22, .ireturn, 1)]
theorem d_L_calm (i : Nat) {w : Instr × Nat} (e : go_fd t_L_calm i = some w) : decode c_L_calm i = .ok w := go_fd_ok (tab := t_L_calm) (by decide +kernel) e
abbrev c_L_unit : ByteArray := method_14_code
def y_L_unit : MethodName := ⟨RL, "unit", "(LSecondWaves;I[J)I"⟩
def t_L_unit : List (Nat × Instr × Nat) := [(0, .aload_n 2, 1), (1, .iconst 0, 1), (2, .aload_n 0, 1), (3, .iload_n 1, 1), (4, .invokevirtual 56, 3), (7, .i2l, 1), (8, .lastore, 1), (9, .goto 9, 3), (12, .astore_n 3, 1), (13, .iconst 1, 1), (14, .ireturn, 1), (15, .astore_n 3, 1), (16, .iconst 2, 1), (17, .ireturn, 1), (18, .iconst 0, 1), (19, .ireturn, 1)]
theorem d_L_unit (i : Nat) {w : Instr × Nat} (e : go_fd t_L_unit i = some w) : decode c_L_unit i = .ok w := go_fd_ok (tab := t_L_unit) (by decide +kernel) e
abbrev c_L_go : ByteArray := method_15_code
def y_L_go : MethodName := ⟨RL, "go", "(LSecondWaves;III)I"⟩
def t_L_go : List (Nat × Instr × Nat) := [(0, .aload_n 0, 1), (1, .iload_n 1, 1), (2, .iload_n 2, 1), (3, .iload_n 3, 1), (4, .invokevirtual 59, 3), (7, .goto 15, 3), (10, .astore 4, 2), (12, .iconst 1, 1), (13, .ireturn, 1), (14, .astore 4, 2), (16, .iconst 2, 1), (17, .ireturn, 1), (18, .astore 4, 2), (20, .iconst 3, 1), (21, .ireturn, 1), (22, .iconst 0, 1), (23, .ireturn, 1)]
theorem d_L_go (i : Nat) {w : Instr × Nat} (e : go_fd t_L_go i = some w) : decode c_L_go i = .ok w := go_fd_ok (tab := t_L_go) (by decide +kernel) e
abbrev c_L_arrive : ByteArray := method_16_code
def y_L_arrive : MethodName := ⟨RL, "arrive", "(LSecondWaves;I)I"⟩
def t_L_arrive : List (Nat × Instr × Nat) := [(0, .aload_n 0, 1), (1, .iload_n 1, 1), (2, .invokevirtual 62, 3), (5, .goto 9, 3), (8, .astore_n 2, 1), (9, .iconst 1, 1), (10, .ireturn, 1), (11, .astore_n 2, 1), (12, .iconst 2, 1), (13, .ireturn, 1), (14, .iconst 0, 1), (15, .ireturn, 1)]
theorem d_L_arrive (i : Nat) {w : Instr × Nat} (e : go_fd t_L_arrive i = some w) : decode c_L_arrive i = .ok w := go_fd_ok (tab := t_L_arrive) (by decide +kernel) e
abbrev c_L_needed : ByteArray := method_17_code
def y_L_needed : MethodName := ⟨RL, "needed", "(LSecondWaves;II[J)I"⟩
def t_L_needed : List (Nat × Instr × Nat) := [(0, .aload_n 3, 1), (1, .iconst 0, 1), (2, .aload_n 0, 1), (3, .iload_n 1, 1), (4, .iload_n 2, 1), (5, .invokevirtual 65, 3), (8, .i2l, 1), (9, .lastore, 1), (10, .goto 11, 3), (13, .astore 4, 2), (15, .iconst 1, 1), (16, .ireturn, 1), (17, .astore 4, 2), (19, .iconst 2, 1), (20, .ireturn, 1), (21, .iconst 0, 1), (22, .ireturn, 1)]
theorem d_L_needed (i : Nat) {w : Instr × Nat} (e : go_fd t_L_needed i = some w) : decode c_L_needed i = .ok w := go_fd_ok (tab := t_L_needed) (by decide +kernel) e
abbrev c_L_incident : ByteArray := method_18_code
def y_L_incident : MethodName := ⟨RL, "incident", "(LSecondWaves;II[J)I"⟩
def t_L_incident : List (Nat × Instr × Nat) := [(0, .aload_n 3, 1), (1, .iconst 0, 1), (2, .aload_n 0, 1), (3, .iload_n 1, 1), (4, .iload_n 2, 1), (5, .invokevirtual 68, 3), (8, .i2l, 1), (9, .lastore, 1), (10, .goto 7, 3), (13, .astore 4, 2), (15, .iconst 1, 1), (16, .ireturn, 1), (17, .iconst 0, 1), (18, .ireturn, 1)]
theorem d_L_incident (i : Nat) {w : Instr × Nat} (e : go_fd t_L_incident i = some w) : decode c_L_incident i = .ok w := go_fd_ok (tab := t_L_incident) (by decide +kernel) e
abbrev c_L_unitAt : ByteArray := method_19_code
def y_L_unitAt : MethodName := ⟨RL, "unitAt", "(LSecondWaves;II[J)I"⟩
def t_L_unitAt : List (Nat × Instr × Nat) := [(0, .aload_n 3, 1), (1, .iconst 0, 1), (2, .aload_n 0, 1), (3, .iload_n 1, 1), (4, .iload_n 2, 1), (5, .invokevirtual 71, 3), (8, .i2l, 1), (9, .lastore, 1), (10, .goto 7, 3), (13, .astore 4, 2), (15, .iconst 1, 1), (16, .ireturn, 1), (17, .iconst 0, 1), (18, .ireturn, 1)]
theorem d_L_unitAt (i : Nat) {w : Instr × Nat} (e : go_fd t_L_unitAt i = some w) : decode c_L_unitAt i = .ok w := go_fd_ok (tab := t_L_unitAt) (by decide +kernel) e
abbrev c_L_acted : ByteArray := method_20_code
def y_L_acted : MethodName := ⟨RL, "acted", "(LSecondWaves;I[J)I"⟩
def t_L_acted : List (Nat × Instr × Nat) := [(0, .aload_n 2, 1), (1, .iconst 0, 1), (2, .aload_n 0, 1), (3, .iload_n 1, 1), (4, .invokevirtual 74, 3), (7, .i2l, 1), (8, .lastore, 1), (9, .goto 6, 3), (12, .astore_n 3, 1), (13, .iconst 1, 1), (14, .ireturn, 1), (15, .iconst 0, 1), (16, .ireturn, 1)]
theorem d_L_acted (i : Nat) {w : Instr × Nat} (e : go_fd t_L_acted i = some w) : decode c_L_acted i = .ok w := go_fd_ok (tab := t_L_acted) (by decide +kernel) e
abbrev c_L_count : ByteArray := method_21_code
def y_L_count : MethodName := ⟨RL, "count", "(LSecondWaves;I[J)I"⟩
def t_L_count : List (Nat × Instr × Nat) := [(0, .aload_n 2, 1), (1, .iconst 0, 1), (2, .aload_n 0, 1), (3, .iload_n 1, 1), (4, .invokevirtual 77, 3), (7, .i2l, 1), (8, .lastore, 1), (9, .goto 6, 3), (12, .astore_n 3, 1), (13, .iconst 1, 1), (14, .ireturn, 1), (15, .iconst 0, 1), (16, .ireturn, 1)]
theorem d_L_count (i : Nat) {w : Instr × Nat} (e : go_fd t_L_count i = some w) : decode c_L_count i = .ok w := go_fd_ok (tab := t_L_count) (by decide +kernel) e
abbrev c_L_law : ByteArray := code
def y_L_law : MethodName := ⟨RL, "law", "([I)Z"⟩
