/-! CALM: who goes back -/
def enc (o : Option Nat) : Int32 := match o with
  | none => -1
  | some f => nI f
def gb (c : go_V) (u f : Nat) : Bool := if c (60 + u) 1 = c (60 + f) 1 then !decide (c (60 + u) 3 < c (60 + f) 3) else decide (c (60 + u) 1 = 1)
def pkS (c : go_V) (x1 x2 : Int32) (o : Option Nat) (u : Nat) : Option Nat := if cn c x1 x2 u = true then (match o with
  | none => some u
  | some f => if gb c u f = true then some u else some f) else o
def pk (c : go_V) (x1 x2 : Int32) (l : List Nat) (o : Option Nat) : Option Nat := l.foldl (pkS c x1 x2) o
theorem pk_some {c : go_V} {x1 x2 : Int32} {P : Nat → Prop} : ∀ (l : List Nat) (o : Option Nat), (∀ f, o = some f → P f) → (∀ u, u ∈ l → cn c x1 x2 u = true → P u) → ∀ f, pk c x1 x2 l o = some f → P f := by
  intro l
  induction l with
  | nil => exact fun o h _ f hf => h f hf
  | cons u l ih =>
    intro o h1 h2 f hf
    refine ih (pkS c x1 x2 o u) (fun g hg => ?_) (fun w hw => h2 w (List.mem_cons_of_mem _ hw)) f hf
    unfold pkS at hg
    by_cases hc : cn c x1 x2 u = true
    · rw [if_pos hc] at hg
      have hu := h2 u List.mem_cons_self hc
      cases o with
      | none => cases hg; exact hu
      | some f0 =>
        dsimp only at hg
        by_cases hg2 : gb c u f0 = true
        · rw [if_pos hg2] at hg; cases hg; exact hu
        · rw [if_neg hg2] at hg; cases hg; exact h1 _ rfl
    · rw [if_neg hc] at hg
      exact h1 g hg
theorem pk_ne {c : go_V} {x1 x2 : Int32} : ∀ (l : List Nat) (o : Option Nat), ¬ o = none ∨ 0 < l.countP (cn c x1 x2) → ¬ pk c x1 x2 l o = none := by
  intro l
  induction l with
  | nil =>
    intro o h
    rcases h with h | h
    · exact h
    · exact absurd h (Nat.lt_irrefl 0)
  | cons u l ih =>
    intro o h
    refine ih (pkS c x1 x2 o u) ?_
    unfold pkS
    by_cases hc : cn c x1 x2 u = true
    · rw [if_pos hc]
      left
      cases o with
      | none => exact fun h => by cases h
      | some f0 =>
        dsimp only
        split <;> exact fun h => by cases h
    · rw [if_neg hc]
      rw [List.countP_cons, if_neg hc] at h
      exact h
theorem enc_some {f : Nat} : enc (some f) = nI f := rfl
theorem nI_nm1 {f : Nat} (h : f < 2 ^ 31) : ¬ nI f = -1 := by
  intro h1
  have h2 := congrArg Int32.toInt h1
  rw [nI_toInt h, show ((-1 : Int32)).toInt = -1 from rfl] at h2
  omega
theorem s_gb {c : go_V} {u f : Nat} (hu : u < 40) (hf : f < 40) : f_U_goesBackBefore (60 + u) (60 + f) c = some (0, (if gb c u f = true then 1 else 0), 0, c) := by
  unfold f_U_goesBackBefore gb
  rw [k_U hu, k_U hf]
  show gd true (gd true _) = _
  rw [gd_t, gd_t]
  by_cases e1 : c (60 + u) 1 = c (60 + f) 1
  · rw [br_y e1, if_pos e1]
    by_cases e2 : c (60 + u) 3 < c (60 + f) 3
    · rw [br_y e2, decide_eq_true e2]; rfl
    · rw [br_n e2, decide_eq_false e2]; rfl
  · rw [br_n e1, if_neg e1]
    by_cases e2 : c (60 + u) 1 = 1
    · rw [br_y e2, decide_eq_true e2]; rfl
    · rw [br_n e2, decide_eq_false e2]; rfl
theorem m_ga {c m : go_V} {uc u f : Nat} (hm : RR uc c m) (hu : u < uc) (hu4 : u < 40) (hf : f < u) : f_M_goesAhead (nI u) (nI f) m = some (0, (if gb c u f = true then 1 else 0), 0, m) := by
  have a1 : m 116 u = c (60 + u) 1 := (hm.un (j := 1) hu hu4 (by omega)).symm
  have a2 : m 116 f = c (60 + f) 1 := (hm.un (j := 1) (by omega) (by omega) (by omega)).symm
  have a3 : m 118 u = c (60 + u) 3 := (hm.un (j := 3) hu hu4 (by omega)).symm
  have a4 : m 118 f = c (60 + f) 3 := (hm.un (j := 3) (by omega) (by omega) (by omega)).symm
  unfold f_M_goesAhead f_M_goesAhead_66 f_M_goesAhead_70 gb
  rw [go_in_nI hu4 (by decide), go_in_nI (show f < 40 by omega) (by decide), nI_clamp (show u < 2 ^ 31 by omega), nI_clamp (show f < 2 ^ 31 by omega), a1, a2, a3, a4]
  simp only [gd_t]
  by_cases e1 : c (60 + u) 1 = c (60 + f) 1
  · rw [br_y e1, if_pos e1]
    by_cases e2 : c (60 + u) 3 < c (60 + f) 3
    · rw [decide_eq_true e2, Int32.lt_iff_toInt_lt] at *
      rw [br_n (by rw [Int32.lt_iff_toInt_lt]; omega), br_n (fun h => by rw [h] at e2; omega)]
      rfl
    · rw [decide_eq_false e2]
      rw [Int32.lt_iff_toInt_lt] at e2
      by_cases e3 : c (60 + f) 3 < c (60 + u) 3
      · rw [br_y e3]; rfl
      · rw [br_n e3]
        rw [Int32.lt_iff_toInt_lt] at e3
        rw [br_y (Int32.toInt_inj.mp (by omega)), br_n (nI_ge hf (by omega))]
        rfl
  · rw [br_n e1, if_neg e1]
    by_cases e2 : c (60 + u) 1 = 1
    · rw [br_y e2, decide_eq_true e2]; rfl
    · rw [br_n e2, decide_eq_false e2]; rfl
def fre (c : go_V) (o : Option Nat) : go_V := match o with
  | none => c
  | some f => u3 c f 0 (-1) (-1)
theorem s_rone {c : go_V} {uc : Nat} (h40 : uc ≤ 40) (h10 : c 0 10 = nI uc) (x1 x2 : Int32) : ∀ (d u n : Nat) (o : Option Nat), u + d = uc → d < n → (∀ f, o = some f → f < u) → f_S_recallOne_5 n x1 x2 (enc o) (nI u) c = some (0, 0, 0, fre c (pk c x1 x2 (List.range' u d) o)) := by
  intro d
  induction d with
  | zero =>
    intro u n o he hn ho
    cases n with
    | zero => omega
    | succ n =>
      unfold f_S_recallOne_5
      rw [h10, br_y (nI_le (by omega) (by omega))]
      cases o with
      | none => rw [br_y (show enc none = -1 from rfl)]; rfl
      | some f =>
        have hf := ho f rfl
        rw [br_n (show ¬ enc (some f) = -1 from nI_nm1 (by omega)), enc_some, go_in_nI (show f < 40 by omega) (by decide), gd_t, nI_clamp (by omega), ln_t, show go_elt 15 f = 60 + f from rfl, k_U (by omega), s_free (by omega)]
        rfl
  | succ d ih =>
    intro u n o he hn ho
    cases n with
    | zero => omega
    | succ n =>
      have hI : f_S_recallOne_5 n x1 x2 (enc o) (nI (u + 1)) c = some (0, 0, 0, fre c (pk c x1 x2 (List.range' (u + 1) d) o)) := ih (u + 1) n o (by omega) (by omega) (fun f hf => by have := ho f hf; omega)
      have hJ : f_S_recallOne_5 n x1 x2 (nI u) (nI (u + 1)) c = some (0, 0, 0, fre c (pk c x1 x2 (List.range' (u + 1) d) (some u))) := ih (u + 1) n (some u) (by omega) (by omega) (fun f hf => by cases hf; omega)
      unfold f_S_recallOne_5 f_S_recallOne_56 f_S_recallOne_53 f_S_recallOne_56
      rw [h10, br_n (nI_ge (by omega) (by omega)), go_in_nI (show u < 40 by omega) (by decide), gd_t, nI_clamp (by omega), ln_t, show go_elt 15 u = 60 + u from rfl, k_U (by omega), s_uis (by omega), ← nI_succ]
      rw [show Nat.beq 2 2 = true from rfl, gd_t, bd_t, nt_t]
      show _ = some (0, 0, 0, fre c (pk c x1 x2 (List.range' (u + 1) d) (pkS c x1 x2 o u)))
      unfold pkS
      by_cases hc : cn c x1 x2 u = true
      · rw [if_pos hc, if_pos hc, br_n i10]
        cases o with
        | none =>
          rw [br_y (show enc none = -1 from rfl)]
          exact hJ
        | some f =>
          have hf := ho f rfl
          rw [br_n (show ¬ enc (some f) = -1 from nI_nm1 (by omega)), gd_t, ln_t, enc_some, go_in_nI (show f < 40 by omega) (by decide), gd_t, nI_clamp (by omega), ln_t, show go_elt 15 f = 60 + f from rfl, k_U (show u < 40 by omega), show Nat.beq 2 2 = true from rfl, gd_t, s_gb (by omega) (by omega), bd_t, nt_t]
          by_cases hg : gb c u f = true
          · rw [if_pos hg, br_n i10]
            dsimp only
            rw [if_pos hg]
            exact hJ
          · rw [if_neg hg, br_y i00]
            dsimp only
            rw [if_neg hg]
            exact hI
      · rw [if_neg hc, if_neg hc, br_y i00]
        exact hI
theorem m_121 {c m : go_V} {uc i k : Nat} (h40 : uc ≤ 40) (h10 : m 100 19 = nI uc) (hm : RR uc c m) (hU : Un c uc) (hi : i < 12) (rec86 rec93 : Int32 → Int32 → Int32 → Int32 → Int32 → go_V → Option go_R) (x2 x3 x4 : Int32) : ∀ (d u n : Nat) (o : Option Nat), u + d = uc → d < n → (∀ f, o = some f → f < u) → f_M_calm_121 rec86 rec93 n (nI i) x2 x3 x4 (nI k) (enc o) (nI u) m = bd (f_M_free (enc (pk c (nI i) (nI k) (List.range' u d) o)) m) (fun r_2 => nt r_2 (rec93 (nI i) x2 x3 (x4 + 1) (nI k) (r_2.2.2.2))) := by
  intro d
  induction d with
  | zero =>
    intro u n o he hn ho
    cases n with
    | zero => omega
    | succ n =>
      unfold f_M_calm_121
      rw [h10, br_y (nI_le (by omega) (by omega))]
      rfl
  | succ d ih =>
    intro u n o he hn ho
    cases n with
    | zero => omega
    | succ n =>
      have hI := ih (u + 1) n o (by omega) (by omega) (fun f hf => by have := ho f hf; omega)
      have hJ := ih (u + 1) n (some u) (by omega) (by omega) (fun f hf => by cases hf; omega)
      rw [enc_some] at hJ
      have g0 : m 115 u = c (60 + u) 0 := (hm.un (j := 0) (by omega) (by omega) (by omega)).symm
      rw [show pk c (nI i) (nI k) (List.range' u (d + 1)) o = pk c (nI i) (nI k) (List.range' (u + 1) d) (pkS c (nI i) (nI k) o u) from rfl]
      unfold f_M_calm_121 f_M_calm_168 f_M_calm_172
      rw [h10, br_n (nI_ge (by omega) (by omega)), m_with hm hU (by omega) (by omega) hi, bd_t, nt_t, ← nI_succ, go_in_nI (show u < 40 by omega) (by decide), gd_t, nI_clamp (by omega)]
      unfold pkS
      by_cases e1 : c (60 + u) 2 = nI i
      · rw [if_pos e1, br_n i10]
        by_cases e2 : c (60 + u) 0 = nI k
        · have hc : cn c (nI i) (nI k) u = true := by unfold cn; rw [decide_eq_true e1, decide_eq_true e2]; rfl
          rw [br_y (show m 115 u = nI k from g0.trans e2), if_pos hc]
          cases o with
          | none =>
            rw [br_y (show enc none < 0 by decide)]
            exact hJ
          | some f =>
            have hf := ho f rfl
            rw [enc_some, br_n (nI_pos (show f < 2 ^ 31 by omega)), m_ga hm (by omega) (by omega) hf, bd_t, nt_t]
            by_cases hg : gb c u f = true
            · rw [if_pos hg, br_n i10]
              dsimp only
              rw [if_pos hg]
              exact hJ
            · rw [if_neg hg, br_y i00]
              dsimp only
              rw [if_neg hg]
              exact hI
        · have hc : ¬ cn c (nI i) (nI k) u = true := by unfold cn; rw [decide_eq_false e2, Bool.and_false]; exact Bool.false_ne_true
          rw [br_n (show ¬ m 115 u = nI k from fun h => e2 (g0.symm.trans h)), if_neg hc]
          exact hI
      · have hc : ¬ cn c (nI i) (nI k) u = true := by unfold cn; rw [decide_eq_false e1, Bool.false_and]; exact Bool.false_ne_true
        rw [if_neg e1, br_y i00, if_neg hc]
        exact hI
