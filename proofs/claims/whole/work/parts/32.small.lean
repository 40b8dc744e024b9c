/-! small methods again, by case -/
theorem br_y {p : Prop} [Decidable p] {a b : Option go_R} (h : p) : br (decide p) a b = a := by rw [br_if, if_pos h]
theorem br_n {p : Prop} [Decidable p] {a b : Option go_R} (h : ¬ p) : br (decide p) a b = b := by rw [br_if, if_neg h]
theorem tr_1 {x : Int32 × Nat × go_V} {k : Option go_R} : tr (1, x) k = some (1, 0, 0, x.2.2) := rfl
theorem tr_2 {x : Int32 × Nat × go_V} {k : Option go_R} : tr (2, x) k = some (2, 0, 0, x.2.2) := rfl
theorem tr_3 {x : Int32 × Nat × go_V} {k : Option go_R} : tr (3, x) k = some (3, 0, 0, x.2.2) := rfl
theorem gd01 {x : Int32} {m : go_V} (h : x &&& 1 = x) : (bd (some (0, x, 0, m)) fun r_1 => nt r_1 (gd (decide (r_1.2.1 &&& 1 = r_1.2.1)) (some (0, r_1.2.1, 0, r_1.2.2.2)))) = some (0, x, 0, m) := by
  rw [bd_t, nt_t]
  rw [decide_eq_true h, gd_t]
theorem i00 : (0 : Int32) = 0 := rfl
theorem i10 : ¬ (1 : Int32) = 0 := by decide
theorem s_inc_n {v : go_V} {ic : Nat} (hic : v 0 8 = nI ic) (h12 : ic ≤ 12) {x : Int32} (h : ¬ (0 ≤ x.toInt ∧ x.toInt < ic)) : f_S_knownIncident x v = some (1, 0, 0, v) := by
  rw [e_S_inc hic h12, if_neg h]
theorem s_inc_y {v : go_V} {ic : Nat} (hic : v 0 8 = nI ic) (h12 : ic ≤ 12) {i : Nat} (h : i < ic) : f_S_knownIncident (nI i) v = some (0, 0, 36 + i, v) := by
  have e := nI_toInt (show i < 2 ^ 31 by omega)
  rw [e_S_inc hic h12, if_pos (by omega), nI_clamp (by omega)]
theorem s_unt_n {v : go_V} {uc : Nat} (huc : v 0 10 = nI uc) (h40 : uc ≤ 40) {x : Int32} (h : ¬ (0 ≤ x.toInt ∧ x.toInt < uc)) : f_S_knownUnit x v = some (1, 0, 0, v) := by
  unfold f_S_knownUnit f_S_knownUnit_12
  rw [br_if, br_if, huc]
  simp only [Int32.lt_iff_toInt_lt]
  have c0 : (0 : Int32).toInt = 0 := rfl
  have c1 : (nI uc).toInt = uc := nI_toInt (by omega)
  by_cases h1 : x.toInt < (0 : Int32).toInt
  · rw [if_pos h1]
  · rw [if_neg h1, if_neg (by omega)]
theorem s_unt_y {v : go_V} {uc : Nat} (huc : v 0 10 = nI uc) (h40 : uc ≤ 40) {u : Nat} (h : u < uc) : f_S_knownUnit (nI u) v = some (0, 0, 60 + u, v) := by
  unfold f_S_knownUnit f_S_knownUnit_12
  rw [br_n (nI_pos (by omega)), huc, br_y (nI_lt h (by omega)), go_in_nI (show u < 40 by omega) (by decide), gd_t, ln_t, nI_clamp (by omega)]
  rfl
theorem s_cl_y {v : go_V} {i : Nat} (hi : i < 12) (h : v (36 + i) 0 = 0) : f_S_refuseClosed (36 + i) v = some (3, 0, 0, v) := by
  unfold f_S_refuseClosed
  rw [k_I hi, br_y h]
  rfl
theorem s_cl_n {v : go_V} {i : Nat} (hi : i < 12) (h : ¬ v (36 + i) 0 = 0) : f_S_refuseClosed (36 + i) v = some (0, 0, 0, v) := by
  unfold f_S_refuseClosed
  rw [k_I hi, br_n h]
  rfl
theorem s_out_y {x a b : Int32} {v : go_V} (h : btw x a b) : f_S_refuseOutside x a b v = some (0, 0, 0, v) := by rw [e_S_out, if_pos h]
theorem s_out_n {x a b : Int32} {v : go_V} (h : ¬ btw x a b) : f_S_refuseOutside x a b v = some (2, 0, 0, v) := by rw [e_S_out, if_neg h]
theorem s_stp_y {x : Int32} {v : go_V} (h : btw x 0 9) : f_S_refuseUnknownStep x v = some (0, 0, 0, v) := by rw [e_S_step, if_pos h]
theorem s_stp_n {x : Int32} {v : go_V} (h : ¬ btw x 0 9) : f_S_refuseUnknownStep x v = some (1, 0, 0, v) := by rw [e_S_step, if_neg h]
theorem s_skl_y {x : Int32} {v : go_V} (h : btw x 0 7) : f_S_refuseUnknownSkill x v = some (0, 0, 0, v) := by rw [e_S_skill, if_pos h]
theorem s_skl_n {x : Int32} {v : go_V} (h : ¬ btw x 0 7) : f_S_refuseUnknownSkill x v = some (1, 0, 0, v) := by rw [e_S_skill, if_neg h]
theorem m_in_y {x a b : Int32} {v : go_V} (h : btw x a b) : f_M_in x a b v = some (0, 1, 0, v) := by rw [e_M_in, if_pos h]
theorem m_in_n {x a b : Int32} {v : go_V} (h : ¬ btw x a b) : f_M_in x a b v = some (0, 0, 0, v) := by rw [e_M_in, if_neg h]
theorem btw_n {x : Int32} {n : Nat} (h : n ≤ 1000) : btw x 0 (nI n - 1) ↔ (0 ≤ x.toInt ∧ x.toInt < n) := by
  have c0 : (0 : Int32).toInt = 0 := rfl
  have c1 : (nI n - 1).toInt = n - 1 := by
    cases n with
    | zero => rfl
    | succ k => rw [nI_pred, nI_toInt (by omega)]; omega
  unfold btw
  rw [c0, c1]
  omega
theorem m_inc_n {m : go_V} {ic : Nat} (hic : m 100 10 = nI ic) (h12 : ic ≤ 12) {x : Int32} (h : ¬ (0 ≤ x.toInt ∧ x.toInt < ic)) : f_M_isIncident x m = some (0, 0, 0, m) := by
  unfold f_M_isIncident
  rw [hic, m_in_n (fun h2 => h ((btw_n (by omega)).mp h2))]
  exact gd01 (by decide)
theorem m_inc_y {m : go_V} {ic : Nat} (hic : m 100 10 = nI ic) (h12 : ic ≤ 12) {i : Nat} (h : i < ic) : f_M_isIncident (nI i) m = some (0, 1, 0, m) := by
  unfold f_M_isIncident
  have e := nI_toInt (show i < 2 ^ 31 by omega)
  rw [hic, m_in_y ((btw_n (by omega)).mpr (by omega))]
  exact gd01 (by decide)
theorem m_unt_n {m : go_V} {uc : Nat} (huc : m 100 19 = nI uc) (h12 : uc ≤ 40) {x : Int32} (h : ¬ (0 ≤ x.toInt ∧ x.toInt < uc)) : f_M_isUnit x m = some (0, 0, 0, m) := by
  unfold f_M_isUnit
  rw [huc, m_in_n (fun h2 => h ((btw_n (by omega)).mp h2))]
  exact gd01 (by decide)
theorem m_unt_y {m : go_V} {uc : Nat} (huc : m 100 19 = nI uc) (h12 : uc ≤ 40) {i : Nat} (h : i < uc) : f_M_isUnit (nI i) m = some (0, 1, 0, m) := by
  unfold f_M_isUnit
  have e := nI_toInt (show i < 2 ^ 31 by omega)
  rw [huc, m_in_y ((btw_n (by omega)).mpr (by omega))]
  exact gd01 (by decide)
theorem m_cl_u {m : go_V} {ic : Nat} (hic : m 100 10 = nI ic) (h12 : ic ≤ 12) {x : Int32} (h : ¬ (0 ≤ x.toInt ∧ x.toInt < ic)) : f_M_isClosed x m = some (0, 0, 0, m) := by
  unfold f_M_isClosed
  rw [m_inc_n hic h12 h]
  rfl
theorem m_cl_y {m : go_V} {ic : Nat} (hic : m 100 10 = nI ic) (h12 : ic ≤ 12) {i : Nat} (h : i < ic) (h0 : m 107 i = 0) : f_M_isClosed (nI i) m = some (0, 1, 0, m) := by
  unfold f_M_isClosed
  rw [m_inc_y hic h12 h, bd_t, nt_t, br_n i10, go_in_nI (show i < 12 by omega) (by decide), gd_t, nI_clamp (by omega), br_y h0]
theorem m_cl_n {m : go_V} {ic : Nat} (hic : m 100 10 = nI ic) (h12 : ic ≤ 12) {i : Nat} (h : i < ic) (h0 : ¬ m 107 i = 0) : f_M_isClosed (nI i) m = some (0, 0, 0, m) := by
  unfold f_M_isClosed
  rw [m_inc_y hic h12 h, bd_t, nt_t, br_n i10, go_in_nI (show i < 12 by omega) (by decide), gd_t, nI_clamp (by omega), br_n h0]
  rfl
theorem m_t0 {v : go_V} : f_M_throwing 0 0 0 v = some (0, 0, 0, u2 v 100 0 0) := e_M_thr 0 0 0 v
theorem m_t1 {b c : Int32} {v : go_V} : f_M_throwing 1 b c v = some (0, 1, 0, u2 v 100 0 1) := e_M_thr 1 b c v
theorem m_t2 {c : Int32} {v : go_V} : f_M_throwing 0 1 c v = some (0, 1, 0, u2 v 100 0 2) := e_M_thr 0 1 c v
theorem m_t3 {v : go_V} : f_M_throwing 0 0 1 v = some (0, 1, 0, u2 v 100 0 3) := e_M_thr 0 0 1 v
theorem KK.inc {c : go_V} {tc ic uc sc : Nat} {s : Nat → Nat} (h : KK c tc ic uc sc s) {i j : Nat} {x : Int32} (hi : i < 12) (hj : 1 ≤ j ∧ j ≤ 3) (hx : (j = 1 → 0 ≤ x.toInt ∧ x.toInt ≤ 9) ∧ (j = 2 → 0 ≤ x.toInt ∧ x.toInt ≤ 10000) ∧ (j = 3 → 0 ≤ x.toInt ∧ x.toInt ≤ (c 0 2).toInt)) : KK (u2 c (36 + i) j x) tc ic uc sc s := by
  obtain ⟨h1, h2, h3, h4, h5, h7⟩ := h
  have ht : tc ≤ 20 := h1.2.1.1
  refine ⟨h1.cong (fun j hj => u2_o (by omega)), h2.cong (fun t j ht hj => u2_o (by omega)), ?_, h4.cong (fun u j hu hj hj2 => u2_o (by omega)), h5.cong (fun j => u2_o (by omega)) (fun t j ht hj => u2_o (by omega)), h7.cong (fun a b ha hb => u2_o (by omega))⟩
  rw [u2_o (show ¬ (0 = 36 + i ∧ 2 = j) by omega)]
  intro a ha
  have h6 := h3 a ha
  unfold u2
  refine ⟨?_, ?_, ?_⟩
  · by_cases e : 36 + a = 36 + i ∧ 1 = j
    · rw [if_pos e]; exact hx.1 e.2.symm
    · rw [if_neg e]; exact h6.1
  · by_cases e : 36 + a = 36 + i ∧ 2 = j
    · rw [if_pos e]; exact hx.2.1 e.2.symm
    · rw [if_neg e]; exact h6.2.1
  · by_cases e : 36 + a = 36 + i ∧ 3 = j
    · rw [if_pos e]; exact hx.2.2 e.2.symm
    · rw [if_neg e]; exact h6.2.2
/-- a unit's three -/
def u3 (c : go_V) (u : Nat) (x y z : Int32) : go_V := u2 (u2 (u2 c (60 + u) 1 x) (60 + u) 2 y) (60 + u) 3 z
theorem u3_1 {c : go_V} {u : Nat} {x y z : Int32} : u3 c u x y z (60 + u) 1 = x := by unfold u3; rw [u2_o (by omega), u2_o (by omega), u2_s]
theorem u3_2 {c : go_V} {u : Nat} {x y z : Int32} : u3 c u x y z (60 + u) 2 = y := by unfold u3; rw [u2_o (by omega), u2_s]
theorem u3_3 {c : go_V} {u : Nat} {x y z : Int32} : u3 c u x y z (60 + u) 3 = z := by unfold u3; rw [u2_s]
theorem u3_o {c : go_V} {u k j : Nat} {x y z : Int32} (h : ¬ (k = 60 + u ∧ 1 ≤ j ∧ j ≤ 3)) : u3 c u x y z k j = c k j := by unfold u3; rw [u2_o (by omega), u2_o (by omega), u2_o (by omega)]
theorem KK.unt {c : go_V} {tc ic uc sc : Nat} {s : Nat → Nat} (h : KK c tc ic uc sc s) {u : Nat} {x y z : Int32} (hu : u < uc) (hx : x = 0 → y = -1) : KK (u3 c u x y z) tc ic uc sc s := by
  obtain ⟨h1, h2, h3, h4, h5, h7⟩ := h
  have ht : tc ≤ 20 := h1.2.1.1
  refine ⟨h1.cong (fun j hj => u3_o (by omega)), h2.cong (fun t j ht hj => u3_o (by omega)), ?_, ?_, h5.cong (fun j => u3_o (by omega)) (fun t j ht hj => u3_o (by omega)), h7.cong (fun a b ha hb => u3_o (by omega))⟩
  · rw [u3_o (by omega)]
    exact h3.cong (Int.le_refl _) (fun i j hi hj hj2 => u3_o (by omega))
  · intro a ha
    by_cases e : a = u
    · subst e
      rw [u3_1, u3_2]
      exact ⟨hx, fun h => by omega⟩
    · rw [u3_o (by omega), u3_o (by omega), u3_o (by omega)]
      exact h4 a ha
def m3 (m : go_V) (u : Nat) (x y z : Int32) : go_V := u2 (u2 (u2 m 116 u x) 117 u y) 118 u z
theorem RR.unt {uc : Nat} {c m : go_V} (h : RR uc c m) {u : Nat} {x y z : Int32} (hu : u < uc) (hu4 : u < 40) : RR uc (u3 c u x y z) (m3 m u x y z) :=
  ((h.upd (show PP uc (60 + u) 1 116 u by unfold PP; omega) x).upd (show PP uc (60 + u) 2 117 u by unfold PP; omega) y).upd (show PP uc (60 + u) 3 118 u by unfold PP; omega) z
theorem m3_o {m : go_V} {u k j : Nat} {x y z : Int32} (h : k < 116 ∨ 118 < k ∨ ¬ j = u) : m3 m u x y z k j = m k j := by unfold m3; rw [u2_o (by omega), u2_o (by omega), u2_o (by omega)]
/-- what is told of counts and incidents -/
theorem RR.ic {uc : Nat} {c m : go_V} (h : RR uc c m) : c 0 8 = m 100 10 := h 0 8 100 10 (by unfold PP; omega)
theorem RR.uc {uc : Nat} {c m : go_V} (h : RR uc c m) : c 0 10 = m 100 19 := h 0 10 100 19 (by unfold PP; omega)
theorem RR.tc {uc : Nat} {c m : go_V} (h : RR uc c m) : c 0 4 = m 100 4 := h 0 4 100 4 (by unfold PP; omega)
theorem RR.inc {uc : Nat} {c m : go_V} (h : RR uc c m) {i j : Nat} (hi : i < 12) (hj : j < 7) : c (36 + i) j = m (107 + j) i := h _ _ _ _ (by unfold PP; omega)
theorem RR.trg {uc : Nat} {c m : go_V} (h : RR uc c m) {t j : Nat} (ht : t < 20) (hj : j < 5) : c (16 + t) j = m (102 + j) t := h _ _ _ _ (by unfold PP; omega)
theorem RR.un {uc : Nat} {c m : go_V} (h : RR uc c m) {u j : Nat} (hu : u < uc) (hu4 : u < 40) (hj : j < 4) : c (60 + u) j = m (115 + j) u := h _ _ _ _ (by unfold PP; omega)
theorem RR.row {uc : Nat} {c m : go_V} (h : RR uc c m) {s k : Nat} (hs : s < 10) (hk : k < 8) : c (2 + s) k = m 101 (8 * s + k) := h _ _ _ _ (by unfold PP; omega)
theorem RR.thr {uc : Nat} {c m : go_V} (h : RR uc c m) (x : Int32) : RR uc c (u2 m 100 0 x) := h.updm x (fun a b hp => by unfold PP at hp; omega)
