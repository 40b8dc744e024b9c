/-! THE LAW: each case, the loop, the start -/
theorem go_lc_self (a : Int32) : go_lc a a = 0 := by
  unfold go_lc lg_cmp
  simp
theorem nI_p (i k : Nat) : nI i + nI k = nI (i + k) := nI_add i k

theorem c_row {L i : Nat} {xs : Nat → Int32} (hL : L < 2 ^ 31) (hi : i + 4 < L) (rec : Int32 → go_V → Option go_R) {v : go_V} (hv : St v v) : ∃ v', St v' v' ∧ f_L_law_128 L xs rec (nI i) v = rec (nI i + 5) v' := by
  have h1 : nI i + (1 : Int32) = nI (i + 1) := nI_p i 1
  have g1 := go_in_nI (show i + 1 < L by omega) hL
  have h2 : nI i + (2 : Int32) = nI (i + 2) := nI_p i 2
  have g2 := go_in_nI (show i + 2 < L by omega) hL
  have h3 : nI i + (3 : Int32) = nI (i + 3) := nI_p i 3
  have g3 := go_in_nI (show i + 3 < L by omega) hL
  obtain ⟨k, x, z, v1, v2, e1, e2, e3, e4, e5⟩ := (o_row (xs (nI (i + 1)).toNatClampNeg) (xs (nI (i + 2)).toNatClampNeg) (xs (nI (i + 3)).toNatClampNeg)).one hv
  refine ⟨v2, e5, ?_⟩
  unfold f_L_law_128
  rw [h1, h2, h3, g1, g2, g3, gd_t, gd_t, gd_t, e1, bd_t, nt_t, gd_t, gd_t, gd_t, e2, bd_t, nt_t]
  unfold f_M_thrown
  rw [bd_t, nt_t, br_y (show v2 100 0 = k from e3)]
theorem c_top {L i : Nat} {xs : Nat → Int32} (hL : L < 2 ^ 31) (hi : i + 4 < L) (rec : Int32 → go_V → Option go_R) {v : go_V} (hv : St v v) : ∃ v', St v' v' ∧ f_L_law_188 L xs rec (nI i) v = rec (nI i + 5) v' := by
  have h1 : nI i + (1 : Int32) = nI (i + 1) := nI_p i 1
  have g1 := go_in_nI (show i + 1 < L by omega) hL
  obtain ⟨k, x, z, v1, v2, e1, e2, e3, e4, e5⟩ := (o_top (xs (nI (i + 1)).toNatClampNeg)).one hv
  refine ⟨v2, e5, ?_⟩
  unfold f_L_law_188
  rw [h1, g1, gd_t, e1, bd_t, nt_t, gd_t, e2, bd_t, nt_t]
  unfold f_M_thrown
  rw [bd_t, nt_t, br_y (show v2 100 0 = k from e3)]
theorem c_trigger {L i : Nat} {xs : Nat → Int32} (hL : L < 2 ^ 31) (hi : i + 4 < L) (rec : Int32 → go_V → Option go_R) {v : go_V} (hv : St v v) : ∃ v', St v' v' ∧ f_L_law_224 L xs rec (nI i) v = rec (nI i + 5) v' := by
  have h1 : nI i + (1 : Int32) = nI (i + 1) := nI_p i 1
  have g1 := go_in_nI (show i + 1 < L by omega) hL
  have h2 : nI i + (2 : Int32) = nI (i + 2) := nI_p i 2
  have g2 := go_in_nI (show i + 2 < L by omega) hL
  have h3 : nI i + (3 : Int32) = nI (i + 3) := nI_p i 3
  have g3 := go_in_nI (show i + 3 < L by omega) hL
  have h4 : nI i + (4 : Int32) = nI (i + 4) := nI_p i 4
  have g4 := go_in_nI (show i + 4 < L by omega) hL
  obtain ⟨k, x, z, v1, v2, e1, e2, e3, e4, e5⟩ := (o_trigger (xs (nI (i + 1)).toNatClampNeg) (xs (nI (i + 2)).toNatClampNeg) (xs (nI (i + 3)).toNatClampNeg) (xs (nI (i + 4)).toNatClampNeg)).one hv
  refine ⟨v2, e5, ?_⟩
  unfold f_L_law_224
  rw [h1, h2, h3, h4, g1, g2, g3, g4, gd_t, gd_t, gd_t, gd_t, e1, bd_t, nt_t, gd_t, gd_t, gd_t, gd_t, e2, bd_t, nt_t]
  unfold f_M_thrown
  rw [bd_t, nt_t, br_y (show v2 100 0 = k from e3)]
  by_cases hk : k = 0
  · rw [br_y (show k = 0 from hk), show go_in (0 : Int32) 1 = true from rfl, gd_t]
    have e6 : go_lc (v2 119 (0 : Int32).toNatClampNeg) x = 0 := by
      have e7 : v2 119 (0 : Int32).toNatClampNeg = x := e4 rfl hk
      rw [e7]
      exact go_lc_self x
    rw [br_y e6]
  · rw [br_n (show ¬ k = 0 from hk)]
theorem c_begin {L i : Nat} {xs : Nat → Int32} (hL : L < 2 ^ 31) (hi : i + 4 < L) (rec : Int32 → go_V → Option go_R) {v : go_V} (hv : St v v) : ∃ v', St v' v' ∧ f_L_law_316 L xs rec (nI i) v = rec (nI i + 5) v' := by
  obtain ⟨k, x, z, v1, v2, e1, e2, e3, e4, e5⟩ := (o_begin).one hv
  refine ⟨v2, e5, ?_⟩
  unfold f_L_law_316
  rw [e1, bd_t, nt_t, e2, bd_t, nt_t]
  unfold f_M_thrown
  rw [bd_t, nt_t, br_y (show v2 100 0 = k from e3)]
  by_cases hk : k = 0
  · rw [br_y (show k = 0 from hk), show go_in (0 : Int32) 1 = true from rfl, gd_t]
    have e6 : go_lc (v2 119 (0 : Int32).toNatClampNeg) x = 0 := by
      have e7 : v2 119 (0 : Int32).toNatClampNeg = x := e4 rfl hk
      rw [e7]
      exact go_lc_self x
    rw [br_y e6]
  · rw [br_n (show ¬ k = 0 from hk)]
theorem c_close {L i : Nat} {xs : Nat → Int32} (hL : L < 2 ^ 31) (hi : i + 4 < L) (rec : Int32 → go_V → Option go_R) {v : go_V} (hv : St v v) : ∃ v', St v' v' ∧ f_L_law_360 L xs rec (nI i) v = rec (nI i + 5) v' := by
  have h1 : nI i + (1 : Int32) = nI (i + 1) := nI_p i 1
  have g1 := go_in_nI (show i + 1 < L by omega) hL
  obtain ⟨k, x, z, v1, v2, e1, e2, e3, e4, e5⟩ := (o_close (xs (nI (i + 1)).toNatClampNeg)).one hv
  refine ⟨v2, e5, ?_⟩
  unfold f_L_law_360
  rw [h1, g1, gd_t, e1, bd_t, nt_t, gd_t, e2, bd_t, nt_t]
  unfold f_M_thrown
  rw [bd_t, nt_t, br_y (show v2 100 0 = k from e3)]
theorem c_tick {L i : Nat} {xs : Nat → Int32} (hL : L < 2 ^ 31) (hi : i + 4 < L) (rec : Int32 → go_V → Option go_R) {v : go_V} (hv : St v v) : ∃ v', St v' v' ∧ f_L_law_396 L xs rec (nI i) v = rec (nI i + 5) v' := by
  have h1 : nI i + (1 : Int32) = nI (i + 1) := nI_p i 1
  have g1 := go_in_nI (show i + 1 < L by omega) hL
  obtain ⟨k, x, z, v1, v2, e1, e2, e3, e4, e5⟩ := (o_tick (xs (nI (i + 1)).toNatClampNeg)).one hv
  refine ⟨v2, e5, ?_⟩
  unfold f_L_law_396
  rw [h1, g1, gd_t, e1, bd_t, nt_t, gd_t, e2, bd_t, nt_t]
  unfold f_M_thrown
  rw [bd_t, nt_t, br_y (show v2 100 0 = k from e3)]
  by_cases hk : k = 0
  · rw [br_y (show k = 0 from hk), show go_in (0 : Int32) 1 = true from rfl, gd_t]
    have e6 : go_lc (v2 119 (0 : Int32).toNatClampNeg) x = 0 := by
      have e7 : v2 119 (0 : Int32).toNatClampNeg = x := e4 rfl hk
      rw [e7]
      exact go_lc_self x
    rw [br_y e6]
  · rw [br_n (show ¬ k = 0 from hk)]
theorem c_word {L i : Nat} {xs : Nat → Int32} (hL : L < 2 ^ 31) (hi : i + 4 < L) (rec : Int32 → go_V → Option go_R) {v : go_V} (hv : St v v) : ∃ v', St v' v' ∧ f_L_law_452 L xs rec (nI i) v = rec (nI i + 5) v' := by
  have h1 : nI i + (1 : Int32) = nI (i + 1) := nI_p i 1
  have g1 := go_in_nI (show i + 1 < L by omega) hL
  have h2 : nI i + (2 : Int32) = nI (i + 2) := nI_p i 2
  have g2 := go_in_nI (show i + 2 < L by omega) hL
  obtain ⟨k, x, z, v1, v2, e1, e2, e3, e4, e5⟩ := (o_word (xs (nI (i + 1)).toNatClampNeg) (xs (nI (i + 2)).toNatClampNeg)).one hv
  refine ⟨v2, e5, ?_⟩
  unfold f_L_law_452
  rw [h1, h2, g1, g2, gd_t, gd_t, e1, bd_t, nt_t, gd_t, gd_t, e2, bd_t, nt_t]
  unfold f_M_thrown
  rw [bd_t, nt_t, br_y (show v2 100 0 = k from e3)]
  by_cases hk : k = 0
  · rw [br_y (show k = 0 from hk), show go_in (0 : Int32) 1 = true from rfl, gd_t]
    have e6 : go_lc (v2 119 (0 : Int32).toNatClampNeg) x = 0 := by
      have e7 : v2 119 (0 : Int32).toNatClampNeg = x := e4 rfl hk
      rw [e7]
      exact go_lc_self x
    rw [br_y e6]
  · rw [br_n (show ¬ k = 0 from hk)]
theorem c_hurt {L i : Nat} {xs : Nat → Int32} (hL : L < 2 ^ 31) (hi : i + 4 < L) (rec : Int32 → go_V → Option go_R) {v : go_V} (hv : St v v) : ∃ v', St v' v' ∧ f_L_law_520 L xs rec (nI i) v = rec (nI i + 5) v' := by
  have h1 : nI i + (1 : Int32) = nI (i + 1) := nI_p i 1
  have g1 := go_in_nI (show i + 1 < L by omega) hL
  have h2 : nI i + (2 : Int32) = nI (i + 2) := nI_p i 2
  have g2 := go_in_nI (show i + 2 < L by omega) hL
  obtain ⟨k, x, z, v1, v2, e1, e2, e3, e4, e5⟩ := (o_hurt (xs (nI (i + 1)).toNatClampNeg) (xs (nI (i + 2)).toNatClampNeg)).one hv
  refine ⟨v2, e5, ?_⟩
  unfold f_L_law_520
  rw [h1, h2, g1, g2, gd_t, gd_t, e1, bd_t, nt_t, gd_t, gd_t, e2, bd_t, nt_t]
  unfold f_M_thrown
  rw [bd_t, nt_t, br_y (show v2 100 0 = k from e3)]
  by_cases hk : k = 0
  · rw [br_y (show k = 0 from hk), show go_in (0 : Int32) 1 = true from rfl, gd_t]
    have e6 : go_lc (v2 119 (0 : Int32).toNatClampNeg) x = 0 := by
      have e7 : v2 119 (0 : Int32).toNatClampNeg = x := e4 rfl hk
      rw [e7]
      exact go_lc_self x
    rw [br_y e6]
  · rw [br_n (show ¬ k = 0 from hk)]
theorem c_ask {L i : Nat} {xs : Nat → Int32} (hL : L < 2 ^ 31) (hi : i + 4 < L) (rec : Int32 → go_V → Option go_R) {v : go_V} (hv : St v v) : ∃ v', St v' v' ∧ f_L_law_588 L xs rec (nI i) v = rec (nI i + 5) v' := by
  have h1 : nI i + (1 : Int32) = nI (i + 1) := nI_p i 1
  have g1 := go_in_nI (show i + 1 < L by omega) hL
  have h2 : nI i + (2 : Int32) = nI (i + 2) := nI_p i 2
  have g2 := go_in_nI (show i + 2 < L by omega) hL
  obtain ⟨k, x, z, v1, v2, e1, e2, e3, e4, e5⟩ := (o_ask (xs (nI (i + 1)).toNatClampNeg) (xs (nI (i + 2)).toNatClampNeg)).one hv
  refine ⟨v2, e5, ?_⟩
  unfold f_L_law_588
  rw [h1, h2, g1, g2, gd_t, gd_t, e1, bd_t, nt_t, gd_t, gd_t, e2, bd_t, nt_t]
  unfold f_M_thrown
  rw [bd_t, nt_t, br_y (show v2 100 0 = k from e3)]
  by_cases hk : k = 0
  · rw [br_y (show k = 0 from hk), show go_in (0 : Int32) 1 = true from rfl, gd_t]
    have e6 : go_lc (v2 119 (0 : Int32).toNatClampNeg) x = 0 := by
      have e7 : v2 119 (0 : Int32).toNatClampNeg = x := e4 rfl hk
      rw [e7]
      exact go_lc_self x
    rw [br_y e6]
  · rw [br_n (show ¬ k = 0 from hk)]
theorem c_tell {L i : Nat} {xs : Nat → Int32} (hL : L < 2 ^ 31) (hi : i + 4 < L) (rec : Int32 → go_V → Option go_R) {v : go_V} (hv : St v v) : ∃ v', St v' v' ∧ f_L_law_656 L xs rec (nI i) v = rec (nI i + 5) v' := by
  have h1 : nI i + (1 : Int32) = nI (i + 1) := nI_p i 1
  have g1 := go_in_nI (show i + 1 < L by omega) hL
  obtain ⟨k, x, z, v1, v2, e1, e2, e3, e4, e5⟩ := (o_tell (xs (nI (i + 1)).toNatClampNeg)).one hv
  refine ⟨v2, e5, ?_⟩
  unfold f_L_law_656
  rw [h1, g1, gd_t, e1, bd_t, nt_t, gd_t, e2, bd_t, nt_t]
  unfold f_M_thrown
  rw [bd_t, nt_t, br_y (show v2 100 0 = k from e3)]
theorem c_calm {L i : Nat} {xs : Nat → Int32} (hL : L < 2 ^ 31) (hi : i + 4 < L) (rec : Int32 → go_V → Option go_R) {v : go_V} (hv : St v v) : ∃ v', St v' v' ∧ f_L_law_692 L xs rec (nI i) v = rec (nI i + 5) v' := by
  have h1 : nI i + (1 : Int32) = nI (i + 1) := nI_p i 1
  have g1 := go_in_nI (show i + 1 < L by omega) hL
  have h2 : nI i + (2 : Int32) = nI (i + 2) := nI_p i 2
  have g2 := go_in_nI (show i + 2 < L by omega) hL
  obtain ⟨k, x, z, v1, v2, e1, e2, e3, e4, e5⟩ := (o_calm (xs (nI (i + 1)).toNatClampNeg) (xs (nI (i + 2)).toNatClampNeg)).one hv
  refine ⟨v2, e5, ?_⟩
  unfold f_L_law_692
  rw [h1, h2, g1, g2, gd_t, gd_t, e1, bd_t, nt_t, gd_t, gd_t, e2, bd_t, nt_t]
  unfold f_M_thrown
  rw [bd_t, nt_t, br_y (show v2 100 0 = k from e3)]
  by_cases hk : k = 0
  · rw [br_y (show k = 0 from hk), show go_in (0 : Int32) 1 = true from rfl, gd_t]
    have e6 : go_lc (v2 119 (0 : Int32).toNatClampNeg) x = 0 := by
      have e7 : v2 119 (0 : Int32).toNatClampNeg = x := e4 rfl hk
      rw [e7]
      exact go_lc_self x
    rw [br_y e6]
  · rw [br_n (show ¬ k = 0 from hk)]
theorem c_unit {L i : Nat} {xs : Nat → Int32} (hL : L < 2 ^ 31) (hi : i + 4 < L) (rec : Int32 → go_V → Option go_R) {v : go_V} (hv : St v v) : ∃ v', St v' v' ∧ f_L_law_760 L xs rec (nI i) v = rec (nI i + 5) v' := by
  have h1 : nI i + (1 : Int32) = nI (i + 1) := nI_p i 1
  have g1 := go_in_nI (show i + 1 < L by omega) hL
  obtain ⟨k, x, z, v1, v2, e1, e2, e3, e4, e5⟩ := (o_unit (xs (nI (i + 1)).toNatClampNeg)).one hv
  refine ⟨v2, e5, ?_⟩
  unfold f_L_law_760
  rw [h1, g1, gd_t, e1, bd_t, nt_t, gd_t, e2, bd_t, nt_t]
  unfold f_M_thrown
  rw [bd_t, nt_t, br_y (show v2 100 0 = k from e3)]
  by_cases hk : k = 0
  · rw [br_y (show k = 0 from hk), show go_in (0 : Int32) 1 = true from rfl, gd_t]
    have e6 : go_lc (v2 119 (0 : Int32).toNatClampNeg) x = 0 := by
      have e7 : v2 119 (0 : Int32).toNatClampNeg = x := e4 rfl hk
      rw [e7]
      exact go_lc_self x
    rw [br_y e6]
  · rw [br_n (show ¬ k = 0 from hk)]
theorem c_go {L i : Nat} {xs : Nat → Int32} (hL : L < 2 ^ 31) (hi : i + 4 < L) (rec : Int32 → go_V → Option go_R) {v : go_V} (hv : St v v) : ∃ v', St v' v' ∧ f_L_law_816 L xs rec (nI i) v = rec (nI i + 5) v' := by
  have h1 : nI i + (1 : Int32) = nI (i + 1) := nI_p i 1
  have g1 := go_in_nI (show i + 1 < L by omega) hL
  have h2 : nI i + (2 : Int32) = nI (i + 2) := nI_p i 2
  have g2 := go_in_nI (show i + 2 < L by omega) hL
  have h3 : nI i + (3 : Int32) = nI (i + 3) := nI_p i 3
  have g3 := go_in_nI (show i + 3 < L by omega) hL
  obtain ⟨k, x, z, v1, v2, e1, e2, e3, e4, e5⟩ := (o_go (xs (nI (i + 1)).toNatClampNeg) (xs (nI (i + 2)).toNatClampNeg) (xs (nI (i + 3)).toNatClampNeg)).one hv
  refine ⟨v2, e5, ?_⟩
  unfold f_L_law_816
  rw [h1, h2, h3, g1, g2, g3, gd_t, gd_t, gd_t, e1, bd_t, nt_t, gd_t, gd_t, gd_t, e2, bd_t, nt_t]
  unfold f_M_thrown
  rw [bd_t, nt_t, br_y (show v2 100 0 = k from e3)]
theorem c_arrive {L i : Nat} {xs : Nat → Int32} (hL : L < 2 ^ 31) (hi : i + 4 < L) (rec : Int32 → go_V → Option go_R) {v : go_V} (hv : St v v) : ∃ v', St v' v' ∧ f_L_law_876 L xs rec (nI i) v = rec (nI i + 5) v' := by
  have h1 : nI i + (1 : Int32) = nI (i + 1) := nI_p i 1
  have g1 := go_in_nI (show i + 1 < L by omega) hL
  obtain ⟨k, x, z, v1, v2, e1, e2, e3, e4, e5⟩ := (o_arrive (xs (nI (i + 1)).toNatClampNeg)).one hv
  refine ⟨v2, e5, ?_⟩
  unfold f_L_law_876
  rw [h1, g1, gd_t, e1, bd_t, nt_t, gd_t, e2, bd_t, nt_t]
  unfold f_M_thrown
  rw [bd_t, nt_t, br_y (show v2 100 0 = k from e3)]
theorem c_needed {L i : Nat} {xs : Nat → Int32} (hL : L < 2 ^ 31) (hi : i + 4 < L) (rec : Int32 → go_V → Option go_R) {v : go_V} (hv : St v v) : ∃ v', St v' v' ∧ f_L_law_912 L xs rec (nI i) v = rec (nI i + 5) v' := by
  have h1 : nI i + (1 : Int32) = nI (i + 1) := nI_p i 1
  have g1 := go_in_nI (show i + 1 < L by omega) hL
  have h2 : nI i + (2 : Int32) = nI (i + 2) := nI_p i 2
  have g2 := go_in_nI (show i + 2 < L by omega) hL
  obtain ⟨k, x, z, v1, v2, e1, e2, e3, e4, e5⟩ := (o_needed (xs (nI (i + 1)).toNatClampNeg) (xs (nI (i + 2)).toNatClampNeg)).one hv
  refine ⟨v2, e5, ?_⟩
  unfold f_L_law_912
  rw [h1, h2, g1, g2, gd_t, gd_t, e1, bd_t, nt_t, gd_t, gd_t, e2, bd_t, nt_t]
  unfold f_M_thrown
  rw [bd_t, nt_t, br_y (show v2 100 0 = k from e3)]
  by_cases hk : k = 0
  · rw [br_y (show k = 0 from hk), show go_in (0 : Int32) 1 = true from rfl, gd_t]
    have e6 : go_lc (v2 119 (0 : Int32).toNatClampNeg) x = 0 := by
      have e7 : v2 119 (0 : Int32).toNatClampNeg = x := e4 rfl hk
      rw [e7]
      exact go_lc_self x
    rw [br_y e6]
  · rw [br_n (show ¬ k = 0 from hk)]
theorem c_incident {L i : Nat} {xs : Nat → Int32} (hL : L < 2 ^ 31) (hi : i + 4 < L) (rec : Int32 → go_V → Option go_R) {v : go_V} (hv : St v v) : ∃ v', St v' v' ∧ f_L_law_980 L xs rec (nI i) v = rec (nI i + 5) v' := by
  have h1 : nI i + (1 : Int32) = nI (i + 1) := nI_p i 1
  have g1 := go_in_nI (show i + 1 < L by omega) hL
  have h2 : nI i + (2 : Int32) = nI (i + 2) := nI_p i 2
  have g2 := go_in_nI (show i + 2 < L by omega) hL
  obtain ⟨k, x, z, v1, v2, e1, e2, e3, e4, e5⟩ := (o_incident (xs (nI (i + 1)).toNatClampNeg) (xs (nI (i + 2)).toNatClampNeg)).one hv
  refine ⟨v2, e5, ?_⟩
  unfold f_L_law_980
  rw [h1, h2, g1, g2, gd_t, gd_t, e1, bd_t, nt_t, gd_t, gd_t, e2, bd_t, nt_t]
  unfold f_M_thrown
  rw [bd_t, nt_t, br_y (show v2 100 0 = k from e3)]
  by_cases hk : k = 0
  · rw [br_y (show k = 0 from hk), show go_in (0 : Int32) 1 = true from rfl, gd_t]
    have e6 : go_lc (v2 119 (0 : Int32).toNatClampNeg) x = 0 := by
      have e7 : v2 119 (0 : Int32).toNatClampNeg = x := e4 rfl hk
      rw [e7]
      exact go_lc_self x
    rw [br_y e6]
  · rw [br_n (show ¬ k = 0 from hk)]
theorem c_unitAt {L i : Nat} {xs : Nat → Int32} (hL : L < 2 ^ 31) (hi : i + 4 < L) (rec : Int32 → go_V → Option go_R) {v : go_V} (hv : St v v) : ∃ v', St v' v' ∧ f_L_law_1048 L xs rec (nI i) v = rec (nI i + 5) v' := by
  have h1 : nI i + (1 : Int32) = nI (i + 1) := nI_p i 1
  have g1 := go_in_nI (show i + 1 < L by omega) hL
  have h2 : nI i + (2 : Int32) = nI (i + 2) := nI_p i 2
  have g2 := go_in_nI (show i + 2 < L by omega) hL
  obtain ⟨k, x, z, v1, v2, e1, e2, e3, e4, e5⟩ := (o_unitAt (xs (nI (i + 1)).toNatClampNeg) (xs (nI (i + 2)).toNatClampNeg)).one hv
  refine ⟨v2, e5, ?_⟩
  unfold f_L_law_1048
  rw [h1, h2, g1, g2, gd_t, gd_t, e1, bd_t, nt_t, gd_t, gd_t, e2, bd_t, nt_t]
  unfold f_M_thrown
  rw [bd_t, nt_t, br_y (show v2 100 0 = k from e3)]
  by_cases hk : k = 0
  · rw [br_y (show k = 0 from hk), show go_in (0 : Int32) 1 = true from rfl, gd_t]
    have e6 : go_lc (v2 119 (0 : Int32).toNatClampNeg) x = 0 := by
      have e7 : v2 119 (0 : Int32).toNatClampNeg = x := e4 rfl hk
      rw [e7]
      exact go_lc_self x
    rw [br_y e6]
  · rw [br_n (show ¬ k = 0 from hk)]
theorem c_acted {L i : Nat} {xs : Nat → Int32} (hL : L < 2 ^ 31) (hi : i + 4 < L) (rec : Int32 → go_V → Option go_R) {v : go_V} (hv : St v v) : ∃ v', St v' v' ∧ f_L_law_1116 L xs rec (nI i) v = rec (nI i + 5) v' := by
  have h1 : nI i + (1 : Int32) = nI (i + 1) := nI_p i 1
  have g1 := go_in_nI (show i + 1 < L by omega) hL
  obtain ⟨k, x, z, v1, v2, e1, e2, e3, e4, e5⟩ := (o_acted (xs (nI (i + 1)).toNatClampNeg)).one hv
  refine ⟨v2, e5, ?_⟩
  unfold f_L_law_1116
  rw [h1, g1, gd_t, e1, bd_t, nt_t, gd_t, e2, bd_t, nt_t]
  unfold f_M_thrown
  rw [bd_t, nt_t, br_y (show v2 100 0 = k from e3)]
  by_cases hk : k = 0
  · rw [br_y (show k = 0 from hk), show go_in (0 : Int32) 1 = true from rfl, gd_t]
    have e6 : go_lc (v2 119 (0 : Int32).toNatClampNeg) x = 0 := by
      have e7 : v2 119 (0 : Int32).toNatClampNeg = x := e4 rfl hk
      rw [e7]
      exact go_lc_self x
    rw [br_y e6]
  · rw [br_n (show ¬ k = 0 from hk)]
theorem c_count {L i : Nat} {xs : Nat → Int32} (hL : L < 2 ^ 31) (hi : i + 4 < L) (rec : Int32 → go_V → Option go_R) {v : go_V} (hv : St v v) : ∃ v', St v' v' ∧ f_L_law_1172 L xs rec (nI i) v = rec (nI i + 5) v' := by
  have h1 : nI i + (1 : Int32) = nI (i + 1) := nI_p i 1
  have g1 := go_in_nI (show i + 1 < L by omega) hL
  obtain ⟨k, x, z, v1, v2, e1, e2, e3, e4, e5⟩ := (o_count (xs (nI (i + 1)).toNatClampNeg)).one hv
  refine ⟨v2, e5, ?_⟩
  unfold f_L_law_1172
  rw [h1, g1, gd_t, e1, bd_t, nt_t, gd_t, e2, bd_t, nt_t]
  unfold f_M_thrown
  rw [bd_t, nt_t, br_y (show v2 100 0 = k from e3)]
  by_cases hk : k = 0
  · rw [br_y (show k = 0 from hk), show go_in (0 : Int32) 1 = true from rfl, gd_t]
    have e6 : go_lc (v2 119 (0 : Int32).toNatClampNeg) x = 0 := by
      have e7 : v2 119 (0 : Int32).toNatClampNeg = x := e4 rfl hk
      rw [e7]
      exact go_lc_self x
    rw [br_y e6]
  · rw [br_n (show ¬ k = 0 from hk)]
theorem St_0 : St v0 v0 := by
  have z1 : ∀ k j, k < 48 → v0 k j = 0 := by
    intro k j hk
    unfold v0
    rw [if_neg (by omega), if_neg (by omega), if_neg (by omega)]
  have z2 : ∀ k j, 100 ≤ k → k < 114 → v0 k j = 0 := by
    intro k j hk hk2
    unfold v0
    rw [if_neg (by omega), if_neg (by omega), if_neg (by omega)]
  have c0 : (0 : Int32).toInt = 0 := rfl
  refine ⟨0, 0, 0, 0, fun _ => 0, ?_, ?_, ?_, ?_, ?_, ?_, ?_, ?_, ?_⟩
  · intro kc jc km jm hp
    unfold PP at hp
    rw [z1 kc jc (by omega), z2 km jm (by omega) (by omega)]
  · intro i t hi ht
    refine Or.inl ⟨?_, ?_⟩
    · unfold v0 f20
      rw [if_pos (by omega), if_pos ht]
    · unfold v0 fM
      rw [if_neg (by omega), if_neg (by omega), if_pos rfl, if_pos (by omega)]
  · rw [z1 _ _ (by omega), z2 _ _ (by omega) (by omega)]
  · unfold Cv
    rw [z1 _ _ (by omega), z1 _ _ (by omega), z1 _ _ (by omega), z1 _ _ (by omega), z1 _ _ (by omega), z1 _ _ (by omega)]
    exact ⟨⟨rfl, rfl, rfl, rfl⟩, ⟨by omega, by omega, by omega, by omega⟩, ⟨by omega, by omega⟩, by omega, by omega⟩
  · intro t ht
    omega
  · intro i hi
    rw [z1 _ _ (by omega), z1 _ _ (by omega), z1 _ _ (by omega), z1 _ _ (by omega)]
    omega
  · intro u hu
    have e1 : v0 (60 + u) 1 = 0 := by
      unfold v0
      rw [if_neg (by omega), if_pos (by omega), if_neg (by omega)]
    have e2 : v0 (60 + u) 2 = -1 := by
      unfold v0
      rw [if_neg (by omega), if_pos (by omega), if_pos (by omega)]
    have e3 : v0 (60 + u) 3 = -1 := by
      unfold v0
      rw [if_neg (by omega), if_pos (by omega), if_pos (by omega)]
    exact ⟨fun _ => e2, fun _ => ⟨e1, e2, e3⟩⟩
  · exact ⟨fun j hj => by omega, fun j hj => by omega, fun t ht => by omega⟩
  · intro a b ha hb
    rw [z1 _ _ (by omega)]
    omega
theorem law_go (L : Nat) (xs : Nat → Int32) (hL : L ≤ 2560) : ∀ (n i : Nat) (v : go_V), L < i + 5 * n → i ≤ L → St v v → ∃ r, f_L_law_23 L xs n (nI i) v = some r := by
  intro n
  induction n with
  | zero =>
    intro i v h1 h2 hv
    omega
  | succ n ih =>
    intro i v h1 h2 hv
    have hL2 : L < 2 ^ 31 := by omega
    have e5 : nI i + 5 = nI (i + 5) := nI_p i 5
    have c5 : (5 : Int32).toInt = 5 := rfl
    have eL : (Int32.ofNat L - 5).toInt = L - 5 := by
      have e := nI_toInt (show L < 2 ^ 31 by omega)
      unfold nI at e
      rw [i_sub (by omega) (by omega), e]
      omega
    have ei := nI_toInt (show i < 2 ^ 31 by omega)
    unfold f_L_law_23
    by_cases hd : Int32.ofNat L - 5 < nI i
    · rw [br_y hd]
      exact ⟨_, rfl⟩
    · rw [br_n hd]
      rw [Int32.lt_iff_toInt_lt] at hd
      have hi : i + 4 < L := by omega
      rw [go_in_nI (show i < L by omega) hL2, gd_t]
      have fin : ∀ w, (∃ v', St v' v' ∧ w = f_L_law_23 L xs n (nI i + 5) v') → ∃ r, w = some r := by
        intro w hw
        obtain ⟨v', q1, q2⟩ := hw
        rw [q2, e5]
        exact ih (i + 5) v' (by omega) (by omega) q1
      rcases rg (xs (nI i).toNatClampNeg &&& 31) 19 (by decide) with hr | ⟨w, hw, ew⟩
      · rw [go_in_no hr]
        exact fin _ ⟨v, hv, rfl⟩
      · rw [ew, go_in_nI hw (by decide), nI_clamp (show w < 2 ^ 31 by omega)]
        have hc : w = 0 ∨ w = 1 ∨ w = 2 ∨ w = 3 ∨ w = 4 ∨ w = 5 ∨ w = 6 ∨ w = 7 ∨ w = 8 ∨ w = 9 ∨ w = 10 ∨ w = 11 ∨ w = 12 ∨ w = 13 ∨ w = 14 ∨ w = 15 ∨ w = 16 ∨ w = 17 ∨ w = 18 := by omega
        rcases hc with rfl | rfl | rfl | rfl | rfl | rfl | rfl | rfl | rfl | rfl | rfl | rfl | rfl | rfl | rfl | rfl | rfl | rfl | rfl
        · exact fin _ (c_row (xs := xs) hL2 hi (f_L_law_23 L xs n) hv)
        · exact fin _ (c_top (xs := xs) hL2 hi (f_L_law_23 L xs n) hv)
        · exact fin _ (c_trigger (xs := xs) hL2 hi (f_L_law_23 L xs n) hv)
        · exact fin _ (c_begin (xs := xs) hL2 hi (f_L_law_23 L xs n) hv)
        · exact fin _ (c_close (xs := xs) hL2 hi (f_L_law_23 L xs n) hv)
        · exact fin _ (c_tick (xs := xs) hL2 hi (f_L_law_23 L xs n) hv)
        · exact fin _ (c_word (xs := xs) hL2 hi (f_L_law_23 L xs n) hv)
        · exact fin _ (c_hurt (xs := xs) hL2 hi (f_L_law_23 L xs n) hv)
        · exact fin _ (c_ask (xs := xs) hL2 hi (f_L_law_23 L xs n) hv)
        · exact fin _ (c_tell (xs := xs) hL2 hi (f_L_law_23 L xs n) hv)
        · exact fin _ (c_calm (xs := xs) hL2 hi (f_L_law_23 L xs n) hv)
        · exact fin _ (c_unit (xs := xs) hL2 hi (f_L_law_23 L xs n) hv)
        · exact fin _ (c_go (xs := xs) hL2 hi (f_L_law_23 L xs n) hv)
        · exact fin _ (c_arrive (xs := xs) hL2 hi (f_L_law_23 L xs n) hv)
        · exact fin _ (c_needed (xs := xs) hL2 hi (f_L_law_23 L xs n) hv)
        · exact fin _ (c_incident (xs := xs) hL2 hi (f_L_law_23 L xs n) hv)
        · exact fin _ (c_unitAt (xs := xs) hL2 hi (f_L_law_23 L xs n) hv)
        · exact fin _ (c_acted (xs := xs) hL2 hi (f_L_law_23 L xs n) hv)
        · exact fin _ (c_count (xs := xs) hL2 hi (f_L_law_23 L xs n) hv)
theorem pure_law (L : Nat) (xs : Nat → Int32) (hL : L ≤ 2560) : ∃ r, f_L_law_23 L xs 513 0 v0 = some r := law_go L xs hL 513 0 v0 (by omega) (by omega) St_0
