/-! PURE: the small methods, in closed form -/
theorem br_if {c : Prop} [Decidable c] {a b : Option go_R} : br (decide c) a b = if c then a else b := by
  by_cases h : c <;> simp [h, br]
theorem gd_t {k : Option go_R} : gd true k = k := rfl
theorem bd_t {r : go_R} {k : go_R → Option go_R} : bd (some r) k = k r := rfl
theorem nt_t {x : Int32 × Nat × go_V} {k : Option go_R} : nt (0, x) k = k := rfl
theorem tr_t {x : Int32 × Nat × go_V} {k : Option go_R} : tr (0, x) k = k := rfl
theorem tr_s {e : Nat} {x : Int32 × Nat × go_V} {k : Option go_R} : tr (e + 1, x) k = some (e + 1, 0, 0, x.2.2) := rfl
theorem ln_t {α : Type} {a : α} {k : α → Option go_R} : ln a k = k a := rfl
theorem u2_s {v : go_V} {k j : Nat} {x : Int32} : u2 v k j x k j = x := by simp [u2]
theorem u2_o {v : go_V} {k j a b : Nat} {x : Int32} (h : ¬ (a = k ∧ b = j)) : u2 v k j x a b = v a b := if_neg h
theorem nIt {n : Nat} (h : n < 2 ^ 31) : (nI n).toInt = (n : Int) := nI_toInt h
theorem go_in_nI {n N : Nat} (h : n < N) (hN : N < 2 ^ 31) : go_in (nI n) N = true := by
  have h1 := vp_in_nI h hN
  unfold vp_in at h1
  unfold go_in
  cases hb : (decide (nI n < 0) || decide (N ≤ (nI n).toNatClampNeg)) with
  | false => rfl
  | true =>
    rw [Bool.or_eq_true, decide_eq_true_eq, decide_eq_true_eq] at hb
    exact absurd hb h1
theorem go_in_no {x : Int32} {N : Nat} (h : ¬ (0 ≤ x.toInt ∧ x.toInt < N)) : go_in x N = false := by
  cases hb : go_in x N with
  | false => rfl
  | true => exact absurd (go_in_spec hb) h
/-- an int is below 0, or n at least, or one of 0 .. n-1 -/
theorem rg (x : Int32) (n : Nat) (hn : n < 2 ^ 31) : (¬ (0 ≤ x.toInt ∧ x.toInt < n)) ∨ ∃ j : Nat, j < n ∧ x = nI j := by
  by_cases h : 0 ≤ x.toInt ∧ x.toInt < n
  · obtain ⟨j, h1, h2⟩ := vp_in_of (vp_in_iff.mpr h) hn
    exact Or.inr ⟨j, h1, h2⟩
  · exact Or.inl h
theorem k_T {t : Nat} (h : t < 20) : go_cls (16 + t) = 1 := by
  unfold go_cls
  rw [if_neg (by omega), if_neg (by omega), if_pos (by omega)]
theorem k_I {i : Nat} (h : i < 12) : go_cls (36 + i) = 0 := by
  unfold go_cls
  rw [if_neg (by omega), if_neg (by omega), if_neg (by omega), if_pos (by omega)]
theorem k_A {i : Nat} (h : i < 12) : go_cls (48 + i) = 10 ∧ go_len (48 + i) = 20 ∧ go_ref (36 + i) 7 = 48 + i := by
  refine ⟨?_, ?_, ?_⟩
  · unfold go_cls
    rw [if_neg (by omega), if_neg (by omega), if_neg (by omega), if_neg (by omega), if_pos (by omega)]
  · unfold go_len
    rw [if_neg (by omega), if_neg (by omega), if_pos (by omega)]
  · unfold go_ref
    rw [if_neg (by omega), if_neg (by omega)]
    omega
theorem k_U {u : Nat} (h : u < 40) : go_cls (60 + u) = 2 := by
  unfold go_cls
  rw [if_neg (by omega), if_neg (by omega), if_neg (by omega), if_neg (by omega), if_neg (by omega), if_pos (by omega)]
theorem k_R {s : Nat} (h : s < 10) : go_cls (2 + s) = 10 ∧ go_len (2 + s) = 8 := by
  refine ⟨?_, ?_⟩
  · unfold go_cls
    rw [if_pos (by omega), if_neg (by omega), if_neg (by omega)]
  · unfold go_len
    rw [if_pos (by omega), if_neg (by omega)]
theorem beq_t {a b : Nat} (h : a = b) : Nat.beq a b = true := by subst h; exact Nat.beq_refl a
/-- a number's own test: between a and b -/
abbrev btw (x a b : Int32) : Prop := a.toInt ≤ x.toInt ∧ x.toInt ≤ b.toInt
theorem e_M_in (x a b : Int32) (v : go_V) : f_M_in x a b v = some (0, (if btw x a b then 1 else 0), 0, v) := by
  unfold f_M_in f_M_in_14
  rw [br_if, br_if]
  simp only [Int32.lt_iff_toInt_lt]
  by_cases h1 : x.toInt < a.toInt
  · rw [if_pos h1, if_neg (by omega)]
  · by_cases h2 : b.toInt < x.toInt
    · rw [if_neg h1, if_pos h2, if_neg (by omega)]
    · rw [if_neg h1, if_neg h2, if_pos (by omega)]
theorem e_S_out (x a b : Int32) (v : go_V) : f_S_refuseOutside x a b v = some ((if btw x a b then 0 else 2), 0, 0, v) := by
  unfold f_S_refuseOutside f_S_refuseOutside_10
  rw [br_if, br_if]
  simp only [Int32.lt_iff_toInt_lt, Int32.le_iff_toInt_le]
  by_cases h1 : x.toInt < a.toInt
  · rw [if_pos h1, if_neg (by omega)]
  · by_cases h2 : x.toInt ≤ b.toInt
    · rw [if_neg h1, if_pos h2, if_pos (by omega)]
    · rw [if_neg h1, if_neg h2, if_neg (by omega)]
theorem e_S_step (x : Int32) (v : go_V) : f_S_refuseUnknownStep x v = some ((if btw x 0 9 then 0 else 1), 0, 0, v) := by
  unfold f_S_refuseUnknownStep f_S_refuseUnknownStep_10
  rw [br_if, br_if]
  simp only [Int32.lt_iff_toInt_lt]
  have c0 : (0 : Int32).toInt = 0 := rfl
  have c9 : (9 : Int32).toInt = 9 := rfl
  have c10 : (10 : Int32).toInt = 10 := rfl
  by_cases h1 : x.toInt < (0 : Int32).toInt
  · rw [if_pos h1, if_neg (by omega)]
  · by_cases h2 : x.toInt < (10 : Int32).toInt
    · rw [if_neg h1, if_pos h2, if_pos (by omega)]
    · rw [if_neg h1, if_neg h2, if_neg (by omega)]
theorem e_S_skill (x : Int32) (v : go_V) : f_S_refuseUnknownSkill x v = some ((if btw x 0 7 then 0 else 1), 0, 0, v) := by
  unfold f_S_refuseUnknownSkill f_S_refuseUnknownSkill_10
  rw [br_if, br_if]
  simp only [Int32.lt_iff_toInt_lt]
  have c0 : (0 : Int32).toInt = 0 := rfl
  have c9 : (7 : Int32).toInt = 7 := rfl
  have c10 : (8 : Int32).toInt = 8 := rfl
  by_cases h1 : x.toInt < (0 : Int32).toInt
  · rw [if_pos h1, if_neg (by omega)]
  · by_cases h2 : x.toInt < (8 : Int32).toInt
    · rw [if_neg h1, if_pos h2, if_pos (by omega)]
    · rw [if_neg h1, if_neg h2, if_neg (by omega)]
def thr (a b c : Int32) : Int32 := if a = 0 then (if b = 0 then (if c = 0 then 0 else 3) else 2) else 1
theorem e_M_thr (a b c : Int32) (v : go_V) : f_M_throwing a b c v = some (0, (if thr a b c = 0 then 0 else 1), 0, u2 v 100 0 (thr a b c)) := by
  unfold f_M_throwing f_M_throwing_26 thr
  simp only [br_if, ln_t]
  by_cases h1 : a = 0
  · by_cases h2 : b = 0
    · by_cases h3 : c = 0
      · simp [h1, h2, h3, u2_s, br, f_M_throwing_26]
      · simp [h1, h2, h3, u2_s, br]
    · simp [h1, h2, u2_s, br]
  · simp [h1, u2_s, br]
theorem e_S_inc {v : go_V} {ic : Nat} (hic : v 0 8 = nI ic) (h12 : ic ≤ 12) (x : Int32) : f_S_knownIncident x v = some (if 0 ≤ x.toInt ∧ x.toInt < ic then (0, 0, 36 + x.toNatClampNeg, v) else (1, 0, 0, v)) := by
  unfold f_S_knownIncident f_S_knownIncident_12
  rw [br_if, br_if, hic]
  simp only [Int32.lt_iff_toInt_lt]
  have c0 : (0 : Int32).toInt = 0 := rfl
  have c1 : (nI ic).toInt = ic := nI_toInt (by omega)
  by_cases h1 : x.toInt < (0 : Int32).toInt
  · rw [if_pos h1, if_neg (by omega)]
  · by_cases h2 : x.toInt < (nI ic).toInt
    · obtain ⟨j, hj, rfl⟩ := vp_in_of (vp_in_iff.mpr (show 0 ≤ x.toInt ∧ x.toInt < (12 : Nat) by omega)) (by decide)
      rw [if_neg h1, if_pos h2, if_pos (by omega), go_in_nI hj (by decide), gd_t, ln_t]
      rfl
    · rw [if_neg h1, if_neg h2, if_neg (by omega)]
