/-! WORD, HURT, ASK -/
def pm (c0 : go_V) (x1 x2 : Int32) (t : Nat) : Bool := decide (c0 (16 + t) 0 = x1) && decide (c0 (16 + t) 1 = x2)
theorem m_all {c0 : go_V} {uc tc ic sc i : Nat} {s : Nat → Nat} {nw sec : Int32} (hi : i < 12) (h0 : 0 ≤ sec.toInt) (h1 : sec.toInt ≤ nw.toInt) (h2 : nw.toInt ≤ 999999) (x1 x2 : Int32) : ∀ (d t n : Nat) (c m : go_V) (acc : Int32), t + d = tc → d < n → CF c0 c → RR uc c m → LL c m nw → KK c tc ic uc sc s → m 100 1 = sec →
    ∃ m', f_M_all_6 n x1 x2 (nI i) acc (nI t) m = some (0, (R i (fun _ => sec) ((List.range' t d).filter (pm c0 x1 x2)) (c, acc)).2, 0, m') ∧ RR uc (R i (fun _ => sec) ((List.range' t d).filter (pm c0 x1 x2)) (c, acc)).1 m' ∧ LL (R i (fun _ => sec) ((List.range' t d).filter (pm c0 x1 x2)) (c, acc)).1 m' nw ∧ MF m m' := by
  intro d
  induction d with
  | zero =>
    intro t n c m acc he hn hc hR hL hK hs
    cases n with
    | zero => omega
    | succ n =>
      unfold f_M_all_6
      have g0 : m 100 4 ≤ nI t := by
        have := hK.1.2.1.1
        rw [← hR.tc, hK.1.1.1]; exact nI_le (by omega) (by omega)
      rw [br_y g0]
      exact ⟨m, rfl, hR, hL, fun _ _ _ => rfl⟩
  | succ d ih =>
    intro t n c m acc he hn hc hR hL hK hs
    have ht := hK.1.2.1.1
    cases n with
    | zero => omega
    | succ n =>
      unfold f_M_all_6
      have g0 : ¬ m 100 4 ≤ nI t := by rw [← hR.tc, hK.1.1.1]; exact nI_ge (by omega) (by omega)
      have g1 : m 102 t = c0 (16 + t) 0 := (hR.trg (j := 0) (by omega) (by omega)).symm.trans (hc _ _ (by omega))
      have g2 : m 103 t = c0 (16 + t) 1 := (hR.trg (j := 1) (by omega) (by omega)).symm.trans (hc _ _ (by omega))
      rw [br_n g0, go_in_nI (show t < 20 by omega) (by decide), gd_t, nI_clamp (by omega), gd_t, g1, g2]
      rw [show List.range' t (d + 1) = t :: List.range' (t + 1) d from rfl, List.filter_cons]
      unfold f_M_all_49 f_M_all_50
      rw [← nI_succ, Int32.add_zero]
      obtain ⟨y, m', a1, a2, a3, a4, a5⟩ := A_m hR hL hK hi (show t < tc by omega) hs h0 h1 h2 acc
      have hno : pm c0 x1 x2 t = false → ∃ m', f_M_all_6 n x1 x2 (nI i) acc (nI (t + 1)) m = some (0, (R i (fun _ => sec) (if pm c0 x1 x2 t = true then t :: (List.range' (t + 1) d).filter (pm c0 x1 x2) else (List.range' (t + 1) d).filter (pm c0 x1 x2)) (c, acc)).2, 0, m') ∧ RR uc (R i (fun _ => sec) (if pm c0 x1 x2 t = true then t :: (List.range' (t + 1) d).filter (pm c0 x1 x2) else (List.range' (t + 1) d).filter (pm c0 x1 x2)) (c, acc)).1 m' ∧ LL (R i (fun _ => sec) (if pm c0 x1 x2 t = true then t :: (List.range' (t + 1) d).filter (pm c0 x1 x2) else (List.range' (t + 1) d).filter (pm c0 x1 x2)) (c, acc)).1 m' nw ∧ MF m m' := by
        intro hp
        rw [if_neg (by rw [hp]; exact Bool.false_ne_true)]
        exact ih (t + 1) n c m acc (by omega) (by omega) hc hR hL hK hs
      by_cases e1 : c0 (16 + t) 0 = x1
      · rw [br_y e1]
        by_cases e2 : c0 (16 + t) 1 = x2
        · rw [br_y e2]
          have hp : pm c0 x1 x2 t = true := by unfold pm; rw [decide_eq_true e1, decide_eq_true e2]; rfl
          rw [if_pos hp, a1, bd_t, nt_t]
          dsimp only
          rw [show acc + y = (A i t sec (c, acc)).2 from a2.symm]
          obtain ⟨m'', b1, b2, b3, b4⟩ := ih (t + 1) n (A i t sec (c, acc)).1 m' (A i t sec (c, acc)).2 (by omega) (by omega) (A_CF hc hi (by omega)) a3 a4 (A_KK hK hi (by omega)) ((a5 100 1 (by omega)).trans hs)
          exact ⟨m'', b1, b2, b3, fun a b hab => (b4 a b hab).trans (a5 a b hab)⟩
        · rw [br_n e2]
          exact hno (by unfold pm; rw [decide_eq_false e2, Bool.and_false])
      · rw [br_n e1]
        exact hno (by unfold pm; rw [decide_eq_false e1, Bool.false_and])
def ph (c0 : go_V) (x2 x3 : Int32) (t : Nat) : Bool := decide (c0 (16 + t) 0 = 1) && !decide (c0 (16 + t) 1 ≤ x3) && !decide (x2 < c0 (16 + t) 1)
theorem m_hrt {c0 : go_V} {uc tc ic sc i : Nat} {s : Nat → Nat} {nw sec : Int32} (hi : i < 12) (h0 : 0 ≤ sec.toInt) (h1 : sec.toInt ≤ nw.toInt) (h2 : nw.toInt ≤ 999999) (x2 x3 : Int32) : ∀ (d t n : Nat) (c m : go_V) (acc : Int32), t + d = tc → d < n → CF c0 c → RR uc c m → LL c m nw → KK c tc ic uc sc s → m 100 1 = sec →
    ∃ m', f_M_hurt_63 n (nI i) x2 x3 acc (nI t) m = some (0, (R i (fun _ => sec) ((List.range' t d).filter (ph c0 x2 x3)) (c, acc)).2, 0, m') ∧ RR uc (R i (fun _ => sec) ((List.range' t d).filter (ph c0 x2 x3)) (c, acc)).1 m' ∧ LL (R i (fun _ => sec) ((List.range' t d).filter (ph c0 x2 x3)) (c, acc)).1 m' nw ∧ MF m m' := by
  intro d
  induction d with
  | zero =>
    intro t n c m acc he hn hc hR hL hK hs
    cases n with
    | zero => omega
    | succ n =>
      unfold f_M_hurt_63
      have g0 : m 100 4 ≤ nI t := by
        have := hK.1.2.1.1
        rw [← hR.tc, hK.1.1.1]; exact nI_le (by omega) (by omega)
      rw [br_y g0]
      exact ⟨m, rfl, hR, hL, fun _ _ _ => rfl⟩
  | succ d ih =>
    intro t n c m acc he hn hc hR hL hK hs
    have ht := hK.1.2.1.1
    cases n with
    | zero => omega
    | succ n =>
      unfold f_M_hurt_63
      have g0 : ¬ m 100 4 ≤ nI t := by rw [← hR.tc, hK.1.1.1]; exact nI_ge (by omega) (by omega)
      have g1 : m 102 t = c0 (16 + t) 0 := (hR.trg (j := 0) (by omega) (by omega)).symm.trans (hc _ _ (by omega))
      have g2 : m 103 t = c0 (16 + t) 1 := (hR.trg (j := 1) (by omega) (by omega)).symm.trans (hc _ _ (by omega))
      rw [br_n g0, go_in_nI (show t < 20 by omega) (by decide), gd_t, nI_clamp (by omega), gd_t, g1, g2]
      rw [show List.range' t (d + 1) = t :: List.range' (t + 1) d from rfl, List.filter_cons]
      unfold f_M_hurt_117 f_M_hurt_118
      rw [← nI_succ, Int32.add_zero]
      obtain ⟨y, m', a1, a2, a3, a4, a5⟩ := A_m hR hL hK hi (show t < tc by omega) hs h0 h1 h2 acc
      have hno : ph c0 x2 x3 t = false → ∃ m', f_M_hurt_63 n (nI i) x2 x3 acc (nI (t + 1)) m = some (0, (R i (fun _ => sec) (if ph c0 x2 x3 t = true then t :: (List.range' (t + 1) d).filter (ph c0 x2 x3) else (List.range' (t + 1) d).filter (ph c0 x2 x3)) (c, acc)).2, 0, m') ∧ RR uc (R i (fun _ => sec) (if ph c0 x2 x3 t = true then t :: (List.range' (t + 1) d).filter (ph c0 x2 x3) else (List.range' (t + 1) d).filter (ph c0 x2 x3)) (c, acc)).1 m' ∧ LL (R i (fun _ => sec) (if ph c0 x2 x3 t = true then t :: (List.range' (t + 1) d).filter (ph c0 x2 x3) else (List.range' (t + 1) d).filter (ph c0 x2 x3)) (c, acc)).1 m' nw ∧ MF m m' := by
        intro hp
        rw [if_neg (by rw [hp]; exact Bool.false_ne_true)]
        exact ih (t + 1) n c m acc (by omega) (by omega) hc hR hL hK hs
      by_cases e1 : c0 (16 + t) 0 = 1
      · rw [br_y e1]
        by_cases e2 : c0 (16 + t) 1 ≤ x3
        · rw [br_y e2]
          exact hno (by unfold ph; rw [decide_eq_true e2, decide_eq_true e1]; rfl)
        · rw [br_n e2, gd_t]
          by_cases e3 : x2 < c0 (16 + t) 1
          · rw [br_y e3]
            exact hno (by unfold ph; rw [decide_eq_true e3, Bool.not_true, Bool.and_false])
          · rw [br_n e3]
            have hp : ph c0 x2 x3 t = true := by unfold ph; rw [decide_eq_true e1, decide_eq_false e2, decide_eq_false e3]; rfl
            rw [if_pos hp, a1, bd_t, nt_t]
            dsimp only
            rw [show acc + y = (A i t sec (c, acc)).2 from a2.symm]
            obtain ⟨m'', b1, b2, b3, b4⟩ := ih (t + 1) n (A i t sec (c, acc)).1 m' (A i t sec (c, acc)).2 (by omega) (by omega) (A_CF hc hi (by omega)) a3 a4 (A_KK hK hi (by omega)) ((a5 100 1 (by omega)).trans hs)
            exact ⟨m'', b1, b2, b3, fun a b hab => (b4 a b hab).trans (a5 a b hab)⟩
      · rw [br_n e1]
        exact hno (by unfold ph; rw [decide_eq_false e1, Bool.false_and, Bool.false_and])