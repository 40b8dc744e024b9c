/-! RUNS of acts; the reference in lock-step -/
theorem i_sub {a b : Int32} (h1 : -2147483648 ≤ a.toInt - b.toInt) (h2 : a.toInt - b.toInt < 2147483648) : (a - b).toInt = a.toInt - b.toInt := by
  rw [Int32.toInt_sub]
  exact Int.bmod_eq_of_le (by omega) (by omega)
theorem i_add {a b : Int32} (h1 : -2147483648 ≤ a.toInt + b.toInt) (h2 : a.toInt + b.toInt < 2147483648) : (a + b).toInt = a.toInt + b.toInt := by
  rw [Int32.toInt_add]
  exact Int.bmod_eq_of_le (by omega) (by omega)
theorem act_RR {uc : Nat} {c m : go_V} {i t : Nat} {sec : Int32} (h : RR uc c m) (hi : i < 12) (ht : t < 20) (hs : m 100 1 = sec) : RR uc (aC c i t sec) (aM m i t) := by
  have q1 : m 111 i = c (36 + i) 4 := (h.inc (j := 4) hi (by omega)).symm
  have q2 : m 106 t = c (16 + t) 4 := (h.trg (j := 4) ht (by omega)).symm
  have q3 : m 108 i = c (36 + i) 1 := (h.inc (j := 1) hi (by omega)).symm
  have q4 : m 112 i = c (36 + i) 5 := (h.inc (j := 5) hi (by omega)).symm
  have q5 : m 104 t = c (16 + t) 2 := (h.trg (j := 2) ht (by omega)).symm
  have q6 : m 100 2 = c 0 1 := (h 0 1 100 2 (Or.inl ⟨rfl, rfl, by omega⟩)).symm
  have q7 : m 100 26 = c 0 13 := (h 0 13 100 26 (Or.inl ⟨rfl, rfl, by omega⟩)).symm
  have h3 : RR uc (a3 c i t sec) (b3 m i t) := by
    unfold a3 b3
    rw [hs, q1, q2, u2_comm (show ¬ (106 = 111 ∧ t = i) by omega)]
    exact (((h.updc sec (fun a b hp => by unfold PP at hp; omega)).updm sec (fun a b hp => by unfold PP at hp; omega)).upd (PP_inc (j := 4) hi (by omega)) _).upd (PP_trg (j := 4) ht (by omega)) _
  have e : sM m t = sT c t := by
    unfold sM sT
    rw [q5, q6]
    by_cases e1 : c 0 1 < c (16 + t) 2
    · rw [if_pos e1, if_pos (Int32.le_of_lt e1)]
    · rw [if_neg e1]
      by_cases e2 : c 0 1 ≤ c (16 + t) 2
      · rw [if_pos e2]
        rw [Int32.lt_iff_toInt_lt] at e1
        rw [Int32.le_iff_toInt_le] at e2
        exact Int32.toInt_inj.mp (by omega)
      · rw [if_neg e2]
  unfold aC aM lw
  rw [e, q3, q4, q7]
  by_cases e1 : sT c t ≤ c (36 + i) 1
  · rw [if_pos (decide_eq_true e1), if_pos e1]
    exact h3.upd (Or.inl ⟨rfl, rfl, by omega⟩) _
  · rw [if_neg (by rw [decide_eq_true_eq]; exact e1), if_neg e1]
    exact (h3.upd (PP_inc (j := 1) hi (by omega)) _).upd (PP_inc (j := 5) hi (by omega)) _
theorem aM_o {m : go_V} {i t k j : Nat} (h : k < 100 ∨ 118 < k ∨ (k = 100 ∧ ¬ j = 26)) : aM m i t k j = m k j := by
  unfold aM b3
  split
  · rw [u2_o (by omega), u2_o (by omega), u2_o (by omega), u2_o (by omega)]
  · rw [u2_o (by omega), u2_o (by omega), u2_o (by omega), u2_o (by omega), u2_o (by omega)]
theorem act_LL {c m : go_V} {nw nw' : Int32} {i t : Nat} {sec : Int32} (h : LL c m nw) (hn : nw.toInt ≤ nw'.toInt) (hi : i < 12) (ht : t < 20) (hs : m 100 1 = sec) (h0 : 0 ≤ sec.toInt) (h1 : sec.toInt ≤ nw'.toInt) : LL (aC c i t sec) (aM m i t) nw' := by
  refine (h.upd hn hi ht h0 h1).cong (fun k j hk hk2 => ?_) (fun j => ?_)
  · unfold aC a3
    split
    · rw [u2_o (by omega), u2_o (by omega), u2_o (by omega)]
    · rw [u2_o (by omega), u2_o (by omega), u2_o (by omega), u2_o (by omega)]
  · unfold aM b3
    split
    · rw [u2_o (by omega), u2_o (by omega), u2_o (by omega), hs]
    · rw [u2_o (by omega), u2_o (by omega), u2_o (by omega), u2_o (by omega), hs]
theorem act_KK {c : go_V} {tc ic uc sc : Nat} {s : Nat → Nat} {i t : Nat} {sec : Int32} (h : KK c tc ic uc sc s) (hi : i < 12) (ht : t < tc) : KK (aC c i t sec) tc ic uc sc s := by
  have ht2 : tc ≤ 20 := h.1.2.1.1
  have hT := h.2.1 t ht
  have hC := h.1.2.2.2
  have h3 : KK (a3 c i t sec) tc ic uc sc s := h.cong (fun k j hk => by unfold NK at hk; unfold a3; rw [u2_o (by omega), u2_o (by omega), u2_o (by omega)])
  unfold aC
  split
  · exact h3.cong (fun k j hk => u2_o (by unfold NK at hk; omega))
  · refine (h3.inc (i := i) (j := 1) (x := sT c t) hi (by omega) ⟨fun _ => ?_, by omega, by omega⟩).cong (fun k j hk => u2_o (by unfold NK at hk; omega))
    unfold sT
    split <;> omega
theorem aok_iff {c m : go_V} {i t : Nat} {sec nw : Int32} (hl : LR (c (48 + i) t) (m 114 (20 * i + t)) nw) (hs : m 100 1 = sec) (hp : m 105 t = c (16 + t) 3) (h1 : 0 ≤ (c (16 + t) 3).toInt ∧ (c (16 + t) 3).toInt ≤ 100000) (h2 : 0 ≤ sec.toInt ∧ sec.toInt ≤ 999999) (h3 : nw.toInt ≤ 999999) : m 105 t ≤ m 100 1 - m 114 (20 * i + t) ↔ aok c i t sec = true := by
  unfold aok
  rw [hs, hp, Bool.or_eq_true, decide_eq_true_eq, decide_eq_true_eq]
  rcases hl with ⟨e1, e2⟩ | ⟨e1, e2, e3⟩
  · rw [e1, e2]
    refine ⟨fun _ => Or.inl rfl, fun _ => ?_⟩
    have c1 : ((-1000000 : Int32)).toInt = -1000000 := rfl
    rw [Int32.le_iff_toInt_le, i_sub (by omega) (by omega)]
    omega
  · rw [← e1]
    refine ⟨fun h => Or.inr h, fun h => ?_⟩
    rcases h with h | h
    · rw [h] at e2
      exact absurd e2 (by decide)
    · exact h
def A (i t : Nat) (sec : Int32) (σ : go_V × Int32) : go_V × Int32 := if aok σ.1 i t sec = true then (aC σ.1 i t sec, σ.2 + 1) else σ
def R (i : Nat) (sec : Nat → Int32) (l : List Nat) (σ : go_V × Int32) : go_V × Int32 := l.foldl (fun σ t => A i t (sec t) σ) σ
/-- what a run leaves -/
def CF (c c' : go_V) : Prop := ∀ k j, ¬ (48 ≤ k ∧ k < 60) ∧ ¬ (36 ≤ k ∧ k < 48 ∧ (j = 1 ∨ j = 4 ∨ j = 5)) ∧ ¬ (16 ≤ k ∧ k < 36 ∧ j = 4) ∧ ¬ (k = 0 ∧ j = 13) → c' k j = c k j
theorem A_CF {c0 : go_V} {i t : Nat} {sec : Int32} {σ : go_V × Int32} (h : CF c0 σ.1) (hi : i < 12) (ht : t < 20) : CF c0 (A i t sec σ).1 := by
  intro k j hk
  unfold A
  split
  · show aC σ.1 i t sec k j = _
    rw [aC_o (by omega)]
    exact h k j hk
  · exact h k j hk
theorem A_KK {tc ic uc sc : Nat} {s : Nat → Nat} {i t : Nat} {sec : Int32} {σ : go_V × Int32} (h : KK σ.1 tc ic uc sc s) (hi : i < 12) (ht : t < tc) : KK (A i t sec σ).1 tc ic uc sc s := by
  unfold A
  split
  · exact act_KK h hi ht
  · exact h
theorem R_CF {c0 : go_V} {i : Nat} {sec : Nat → Int32} (hi : i < 12) : ∀ (l : List Nat) (σ : go_V × Int32), (∀ t, t ∈ l → t < 20) → CF c0 σ.1 → CF c0 (R i sec l σ).1 := by
  intro l
  induction l with
  | nil => exact fun σ _ h => h
  | cons t l ih => exact fun σ hl h => ih _ (fun t h => hl t (List.mem_cons_of_mem _ h)) (A_CF h hi (hl t List.mem_cons_self))
theorem R_KK {tc ic uc sc : Nat} {s : Nat → Nat} {i : Nat} {sec : Nat → Int32} (hi : i < 12) : ∀ (l : List Nat) (σ : go_V × Int32), (∀ t, t ∈ l → t < tc) → KK σ.1 tc ic uc sc s → KK (R i sec l σ).1 tc ic uc sc s := by
  intro l
  induction l with
  | nil => exact fun σ _ h => h
  | cons t l ih => exact fun σ hl h => ih _ (fun t h => hl t (List.mem_cons_of_mem _ h)) (A_KK h hi (hl t List.mem_cons_self))
def MF (m m' : go_V) : Prop := ∀ a b, a < 100 ∨ 118 < a ∨ (a = 100 ∧ b < 2) → m' a b = m a b
/-- the reference's act beside the class's -/
theorem A_m {uc tc ic sc : Nat} {s : Nat → Nat} {c m : go_V} {nw sec : Int32} {i t : Nat} (hR : RR uc c m) (hL : LL c m nw) (hK : KK c tc ic uc sc s) (hi : i < 12) (ht : t < tc) (hs : m 100 1 = sec) (h0 : 0 ≤ sec.toInt) (h1 : sec.toInt ≤ nw.toInt) (h2 : nw.toInt ≤ 999999) (n : Int32) : ∃ (y : Int32) (m' : go_V), f_M_act (nI t) (nI i) m = some (0, y, 0, m') ∧ (A i t sec (c, n)).2 = n + y ∧ RR uc (A i t sec (c, n)).1 m' ∧ LL (A i t sec (c, n)).1 m' nw ∧ MF m m' := by
  have ht2 : tc ≤ 20 := hK.1.2.1.1
  have hT := (hK.2.1 t ht).2.1
  have e := aok_iff (hL i t hi (by omega)) hs (hR.trg (j := 3) (by omega) (by omega)).symm hT (by omega) h2
  rw [m_act hi (by omega)]
  unfold A
  by_cases h : m 105 t ≤ m 100 1 - m 114 (20 * i + t)
  · rw [if_pos h, if_pos (e.mp h)]
    exact ⟨1, _, rfl, rfl, act_RR hR hi (by omega) hs, act_LL hL (Int.le_refl _) hi (by omega) hs h0 h1, fun a b hab => aM_o (by omega)⟩
  · rw [if_neg h, if_neg (fun h4 => h (e.mpr h4))]
    exact ⟨0, m, rfl, (Int32.add_zero _).symm, hR, hL, fun a b hab => rfl⟩
theorem s_isFor {v : go_V} {t : Nat} (ht : t < 20) (k lo hi : Int32) : f_T_isFor (16 + t) k lo hi v = some (0, (if (decide (v (16 + t) 0 = k) && !decide (v (16 + t) 1 < lo) && !decide (hi < v (16 + t) 1)) = true then 1 else 0), 0, v) := by
  unfold f_T_isFor f_T_isFor_28
  rw [k_T ht]
  by_cases h1 : v (16 + t) 0 = k
  · by_cases h2 : v (16 + t) 1 < lo
    · rw [br_y h1, br_y h2, decide_eq_true h1, decide_eq_true h2]; rfl
    · by_cases h3 : hi < v (16 + t) 1
      · rw [br_y h1, br_n h2, br_y h3, decide_eq_true h1, decide_eq_false h2, decide_eq_true h3]; rfl
      · rw [br_y h1, br_n h2, br_n h3, decide_eq_true h1, decide_eq_false h2, decide_eq_false h3]; rfl
  · rw [br_n h1, decide_eq_false h1]; rfl
def pr (c0 : go_V) (k lo hi : Int32) (t : Nat) : Bool := decide (c0 (16 + t) 0 = k) && !decide (c0 (16 + t) 1 < lo) && !decide (hi < c0 (16 + t) 1)
theorem s_happ {c0 : go_V} {i tc : Nat} (hi : i < 12) (ht : tc ≤ 20) (h4 : c0 0 4 = nI tc) (k lo hi2 : Int32) : ∀ (d t n : Nat) (c : go_V) (acc : Int32), t + d = tc → d < n → CF c0 c →
    f_S_happened_6 n (36 + i) k lo hi2 acc (nI t) c = some (0, (R i (fun _ => c0 0 2) ((List.range' t d).filter (pr c0 k lo hi2)) (c, acc)).2, 0, (R i (fun _ => c0 0 2) ((List.range' t d).filter (pr c0 k lo hi2)) (c, acc)).1) := by
  intro d
  induction d with
  | zero =>
    intro t n c acc he hn hc
    cases n with
    | zero => omega
    | succ n =>
      unfold f_S_happened_6
      rw [hc 0 4 (by omega), h4, br_y (nI_le (by omega) (by omega))]
      rfl
  | succ d ih =>
    intro t n c acc he hn hc
    cases n with
    | zero => omega
    | succ n =>
      unfold f_S_happened_6
      have g0 : ¬ c 0 4 ≤ nI t := by rw [hc 0 4 (by omega), h4]; exact nI_ge (by omega) (by omega)
      have g1 : c (16 + t) 0 = c0 (16 + t) 0 := hc _ _ (by omega)
      have g2 : c (16 + t) 1 = c0 (16 + t) 1 := hc _ _ (by omega)
      have g3 : c 0 2 = c0 0 2 := hc _ _ (by omega)
      rw [br_n g0, go_in_nI (show t < 20 by omega) (by decide), gd_t, nI_clamp (by omega), ln_t, show go_elt 12 t = 16 + t from rfl, k_T (by omega), s_isFor (by omega), g1, g2]
      rw [show List.range' t (d + 1) = t :: List.range' (t + 1) d from rfl, List.filter_cons]
      show gd true _ = _
      rw [gd_t, bd_t, nt_t]
      unfold f_S_happened_49
      rw [← nI_succ]
      by_cases hp : pr c0 k lo hi2 t = true
      · rw [if_pos hp]
        have hp' := hp
        unfold pr at hp'
        rw [if_pos hp']
        dsimp only
        rw [br_n i10, g3, s_act hi (by omega), bd_t]
        unfold R
        rw [List.foldl_cons]
        unfold A
        by_cases ha : aok c i t (c0 0 2) = true
        · rw [if_pos ha, nt_t, br_n i10, if_pos ha]
          exact ih (t + 1) n _ _ (by omega) (by omega) (fun a b hab => (aC_o (by omega)).trans (hc a b hab))
        · rw [if_neg ha, nt_t, br_y i00, if_neg ha]
          exact ih (t + 1) n _ _ (by omega) (by omega) hc
      · rw [if_neg hp]
        have hp' := hp
        unfold pr at hp'
        rw [if_neg hp']
        dsimp only
        rw [br_y i00]
        exact ih (t + 1) n _ _ (by omega) (by omega) hc
