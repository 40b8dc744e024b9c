/-! ACT: a trigger acts at an incident -/
theorem PP_inc {uc i j : Nat} (hi : i < 12) (hj : j < 7) : PP uc (36 + i) j (107 + j) i := Or.inr (Or.inr (Or.inr (Or.inl ⟨by omega, by omega, hj, rfl, by omega⟩)))
theorem PP_trg {uc t j : Nat} (ht : t < 20) (hj : j < 5) : PP uc (16 + t) j (102 + j) t := Or.inr (Or.inr (Or.inl ⟨by omega, by omega, hj, rfl, by omega⟩))
theorem u2_comm {v : go_V} {k j k2 j2 : Nat} {x y : Int32} (h : ¬ (k = k2 ∧ j = j2)) : u2 (u2 v k j x) k2 j2 y = u2 (u2 v k2 j2 y) k j x := by
  funext a b
  unfold u2
  by_cases h1 : a = k ∧ b = j
  · by_cases h2 : a = k2 ∧ b = j2
    · omega
    · rw [if_neg h2, if_pos h1, if_pos h1]
  · rw [if_neg h1, if_neg h1]
def sT (c : go_V) (t : Nat) : Int32 := if c 0 1 < c (16 + t) 2 then c 0 1 else c (16 + t) 2
def lw (c : go_V) (i t : Nat) : Bool := decide (sT c t ≤ c (36 + i) 1)
def aok (c : go_V) (i t : Nat) (sec : Int32) : Bool := decide (c (48 + i) t = -1) || decide (c (16 + t) 3 ≤ sec - c (48 + i) t)
def a3 (c : go_V) (i t : Nat) (sec : Int32) : go_V := u2 (u2 (u2 c (48 + i) t sec) (36 + i) 4 (c (36 + i) 4 + 1)) (16 + t) 4 (c (16 + t) 4 + 1)
def aC (c : go_V) (i t : Nat) (sec : Int32) : go_V := if lw c i t = true then u2 (a3 c i t sec) 0 13 (c 0 13 + 1) else u2 (u2 (a3 c i t sec) (36 + i) 1 (sT c t)) (36 + i) 5 (c (36 + i) 5 + 1)
theorem aC_o {c : go_V} {i t k j : Nat} {sec : Int32} (h : ¬ (k = 48 + i ∧ j = t) ∧ ¬ (k = 36 + i ∧ (j = 1 ∨ j = 4 ∨ j = 5)) ∧ ¬ (k = 16 + t ∧ j = 4) ∧ ¬ (k = 0 ∧ j = 13)) : aC c i t sec k j = c k j := by
  unfold aC a3
  split
  · rw [u2_o (by omega), u2_o (by omega), u2_o (by omega), u2_o (by omega)]
  · rw [u2_o (by omega), u2_o (by omega), u2_o (by omega), u2_o (by omega), u2_o (by omega)]
theorem s_act {c : go_V} {i t : Nat} (hi : i < 12) (ht : t < 20) (sec : Int32) : f_S_act (36 + i) (nI t) sec c = some (if aok c i t sec = true then (0, 1, 0, aC c i t sec) else (0, 0, 0, c)) := by
  have e36 : ∀ y, f_S_act_36 (36 + i) (nI t) sec (16 + t) y c = some (0, 1, 0, aC c i t sec) := by
    intro y
    unfold f_S_act_36 f_S_raise aC
    rw [k_I hi, (k_A hi).2.2, (k_A hi).1, (k_A hi).2.1, go_in_nI ht (by decide), nI_clamp (by omega), k_T ht]
    simp only [ln_t]
    have e1 : u2 (u2 (u2 c (48 + i) t sec) (36 + i) 4 ((u2 c (48 + i) t sec) (36 + i) 4 + 1)) (16 + t) 4 ((u2 (u2 c (48 + i) t sec) (36 + i) 4 ((u2 c (48 + i) t sec) (36 + i) 4 + 1)) (16 + t) 4 + 1) = a3 c i t sec := by
      unfold a3
      rw [u2_o (show ¬ (36 + i = 48 + i ∧ 4 = t) by omega), u2_o (show ¬ (16 + t = 36 + i ∧ 4 = 4) by omega), u2_o (show ¬ (16 + t = 48 + i ∧ 4 = t) by omega)]
    rw [e1]
    have f1 : a3 c i t sec 0 1 = c 0 1 := by unfold a3; rw [u2_o (by omega), u2_o (by omega), u2_o (by omega)]
    have f2 : a3 c i t sec (16 + t) 2 = c (16 + t) 2 := by unfold a3; rw [u2_o (by omega), u2_o (by omega), u2_o (by omega)]
    have f3 : a3 c i t sec (36 + i) 1 = c (36 + i) 1 := by unfold a3; rw [u2_o (by omega), u2_o (by omega), u2_o (by omega)]
    have f4 : a3 c i t sec 0 13 = c 0 13 := by unfold a3; rw [u2_o (by omega), u2_o (by omega), u2_o (by omega)]
    have f5 : a3 c i t sec (36 + i) 5 = c (36 + i) 5 := by unfold a3; rw [u2_o (by omega), u2_o (by omega), u2_o (by omega)]
    rw [f1, f2, f3, f4, show (if c 0 1 < c (16 + t) 2 then c 0 1 else c (16 + t) 2) = sT c t from rfl, u2_o (show ¬ (36 + i = 36 + i ∧ 5 = 1) by omega), f5]
    unfold lw
    by_cases h : sT c t ≤ c (36 + i) 1
    · rw [br_y h, if_pos (decide_eq_true h)]
      rfl
    · rw [br_n h, if_neg (by rw [decide_eq_true_eq]; exact h)]
      rfl
  unfold f_S_act aok
  rw [go_in_nI ht (by decide), gd_t, nI_clamp (by omega), ln_t, show go_elt 12 t = 16 + t from rfl, k_I hi, (k_A hi).2.2, (k_A hi).1, (k_A hi).2.1, go_in_nI ht (by decide), e36, k_T ht]
  by_cases h1 : c (48 + i) t = -1
  · rw [br_y h1, decide_eq_true h1]
    rfl
  · rw [br_n h1, decide_eq_false h1, Bool.false_or]
    by_cases h2 : c (16 + t) 3 ≤ sec - c (48 + i) t
    · rw [br_y h2, decide_eq_true h2]
      rfl
    · rw [br_n h2, decide_eq_false h2]
      rfl
def sM (m : go_V) (t : Nat) : Int32 := if m 100 2 ≤ m 104 t then m 100 2 else m 104 t
def b3 (m : go_V) (i t : Nat) : go_V := u2 (u2 (u2 m 114 (20 * i + t) (m 100 1)) 106 t (m 106 t + 1)) 111 i (m 111 i + 1)
def aM (m : go_V) (i t : Nat) : go_V := if sM m t ≤ m 108 i then u2 (b3 m i t) 100 26 (m 100 26 + 1) else u2 (u2 (b3 m i t) 108 i (sM m t)) 112 i (m 112 i + 1)
theorem m_act {m : go_V} {i t : Nat} (hi : i < 12) (ht : t < 20) : f_M_act (nI t) (nI i) m = some (if m 105 t ≤ m 100 1 - m 114 (20 * i + t) then (0, 1, 0, aM m i t) else (0, 0, 0, m)) := by
  have e88 : ∀ v y, f_M_act_88 (nI t) (nI i) y v = some (0, 1, 0, if y ≤ v 108 i then u2 v 100 26 (v 100 26 + 1) else u2 (u2 v 108 i y) 112 i (v 112 i + 1)) := by
    intro v y
    unfold f_M_act_88 f_M_act_129
    rw [go_in_nI hi (by decide), gd_t, nI_clamp (by omega)]
    by_cases h : y ≤ v 108 i
    · rw [br_y h, if_pos h]; rfl
    · rw [br_n h, if_neg h]
      simp only [gd_t, ln_t]
      rw [u2_o (by omega)]
  unfold f_M_act
  simp only [nI_20, go_in_nI (show 20 * i + t < 240 by omega) (by decide), go_in_nI ht (by decide), go_in_nI hi (by decide), gd_t, nI_clamp (show 20 * i + t < 2 ^ 31 by omega), nI_clamp (show i < 2 ^ 31 by omega), nI_clamp (show t < 2 ^ 31 by omega), ln_t, e88]
  by_cases h : m 105 t ≤ m 100 1 - m 114 (20 * i + t)
  · rw [br_y h, if_pos h]
    have e1 : u2 (u2 (u2 m 114 (20 * i + t) (m 100 1)) 106 t ((u2 m 114 (20 * i + t) (m 100 1)) 106 t + 1)) 111 i ((u2 (u2 m 114 (20 * i + t) (m 100 1)) 106 t ((u2 m 114 (20 * i + t) (m 100 1)) 106 t + 1)) 111 i + 1) = b3 m i t := by
      unfold b3
      rw [u2_o (show ¬ (106 = 114 ∧ t = 20 * i + t) by omega), u2_o (show ¬ (111 = 106 ∧ i = t) by omega), u2_o (show ¬ (111 = 114 ∧ i = 20 * i + t) by omega)]
    rw [e1]
    have f : ∀ a b, ¬ (a = 114) → ¬ (a = 106) → ¬ (a = 111) → b3 m i t a b = m a b := by
      intro a b h1 h2 h3
      unfold b3
      rw [u2_o (by omega), u2_o (by omega), u2_o (by omega)]
    rw [f 100 2 (by omega) (by omega) (by omega), f 104 t (by omega) (by omega) (by omega), f 108 i (by omega) (by omega) (by omega), f 100 26 (by omega) (by omega) (by omega), f 112 i (by omega) (by omega) (by omega)]
    unfold aM sM
    by_cases h2 : m 100 2 ≤ m 104 t
    · rw [br_y h2, if_pos h2]
    · rw [br_n h2, if_neg h2]
  · rw [br_n h, if_neg h]
