/-! TRIGGER -/
theorem t118_1 {x1 x2 x3 x4 x5 x6 y2 y3 : Int32} {m : go_V} : f_M_trigger_118 x1 x2 x3 x4 x5 x6 1 y2 y3 m = some (0, 0, 0, u2 m 100 0 1) := by
  unfold f_M_trigger_118
  rw [m_t1]
  rfl
theorem t104_1 {x1 x2 x3 x4 x5 x6 y2 : Int32} {m : go_V} : f_M_trigger_104 x1 x2 x3 x4 x5 x6 1 y2 m = some (0, 0, 0, u2 m 100 0 1) := by
  unfold f_M_trigger_104
  rw [br_if, t118_1, t118_1]
  split <;> rfl
theorem t78_1 {x1 x2 x3 x4 y0 : Int32} {m : go_V} : f_M_trigger_78 x1 x2 x3 x4 1 y0 m = some (0, 0, 0, u2 m 100 0 1) := by
  unfold f_M_trigger_78 f_M_trigger_99
  rw [br_if, t104_1, e_M_in, bd_t, nt_t, br_if]
  dsimp only
  rw [t104_1, t104_1]
  split
  · rfl
  · split <;> rfl
theorem t24_1 {x1 x2 x3 x4 : Int32} {m : go_V} : f_M_trigger_24 x1 x2 x3 x4 1 m = some (0, 0, 0, u2 m 100 0 1) := by
  unfold f_M_trigger_24
  simp only [e_M_in, bd_t, nt_t, t78_1, br_if]
  repeat' split
  all_goals rfl
theorem t118_2 {x1 x2 x3 x4 x5 x6 y3 : Int32} {m : go_V} : f_M_trigger_118 x1 x2 x3 x4 x5 x6 0 1 y3 m = some (0, 0, 0, u2 m 100 0 2) := by
  unfold f_M_trigger_118
  rw [m_t2]
  rfl
theorem t104_2 {x1 x2 x3 x4 x5 x6 : Int32} {m : go_V} : f_M_trigger_104 x1 x2 x3 x4 x5 x6 0 1 m = some (0, 0, 0, u2 m 100 0 2) := by
  unfold f_M_trigger_104
  rw [br_if, t118_2, t118_2]
  split <;> rfl
theorem t24_0 {k : Nat} {x2 x3 x4 : Int32} {m : go_V} (hk : k < 4) : f_M_trigger_24 (nI k) x2 x3 x4 0 m = f_M_trigger_78 (nI k) x2 x3 x4 0 (if btw x2 (go_lsI (nI k)) (go_grI (nI k)) then 1 else 0) m := by
  unfold f_M_trigger_24
  have e : k = 0 ∨ k = 1 ∨ k = 2 ∨ k = 3 := by omega
  rcases e with rfl | rfl | rfl | rfl
  · rw [br_y (by decide), e_M_in]; rfl
  · rw [br_n (by decide), br_y (by decide), e_M_in]; rfl
  · rw [br_n (by decide), br_n (by decide), br_y (by decide), e_M_in]; rfl
  · rw [br_n (by decide), br_n (by decide), br_n (by decide), e_M_in]; rfl
theorem nI_m1 (p : Nat) : nI (p + 1) + (-1) = nI p := (Int32.sub_eq_add_neg _ _).symm.trans (nI_pred p)
/-- a new silence's way to its place -/
theorem s_sil {c2 : go_V} {tc sc : Nat} {s : Nat → Nat} (ht : tc < 20) (hs : ∀ j, j < sc → s j < tc) (hsc : sc ≤ tc) : ∀ (p n : Nat) (v : go_V), p ≤ sc → p < n → (∀ j, j < p → v 13 j = nI (s j)) → (∀ j, p < j → j ≤ sc → v 13 j = nI (s (j - 1))) → (∀ k j, ¬ k = 13 → v k j = c2 k j) →
    ∃ (q : Nat) (v' : go_V), q ≤ p ∧ f_S_addSilence_15 n (nI tc) (nI p) v = some (0, 0, 0, v') ∧ (∀ j, j < q → v' 13 j = nI (s j)) ∧ v' 13 q = nI tc ∧ (∀ j, q < j → j ≤ sc → v' 13 j = nI (s (j - 1))) ∧ (∀ k j, ¬ k = 13 → v' k j = c2 k j) ∧ (0 < q → (c2 (16 + s (q - 1)) 1).toInt ≤ (c2 (16 + tc) 1).toInt) ∧ (∀ j, q ≤ j → j < p → (c2 (16 + tc) 1).toInt < (c2 (16 + s j) 1).toInt) := by
  intro p
  induction p with
  | zero =>
    intro n v hp hn h1 h2 h3
    cases n with
    | zero => omega
    | succ n =>
      unfold f_S_addSilence_15 f_S_addSilence_67
      rw [br_y (show nI 0 ≤ 0 by decide), go_in_nI (show 0 < 20 by omega) (by decide), gd_t, ln_t, nI_clamp (by omega)]
      refine ⟨0, _, Nat.le_refl _, rfl, fun j hj => by omega, u2_s, fun j hj hj2 => ?_, fun k j hk => ?_, fun h => by omega, fun j hj hj2 => by omega⟩
      · rw [u2_o (by omega)]; exact h2 j hj hj2
      · rw [u2_o (by omega)]; exact h3 k j hk
  | succ p ih =>
    intro n v hp hn h1 h2 h3
    cases n with
    | zero => omega
    | succ n =>
      have hsp := hs p (by omega)
      have g0 : ¬ nI (p + 1) ≤ 0 := nI_nle (by omega) (by omega)
      have g1 : v 13 p = nI (s p) := h1 p (by omega)
      unfold f_S_addSilence_15 f_S_addSilence_67
      rw [br_n g0, nI_pred, go_in_nI (show p < 20 by omega) (by decide), gd_t, nI_clamp (show p < 2 ^ 31 by omega), g1, go_in_nI (show s p < 20 by omega) (by decide), gd_t, nI_clamp (show s p < 2 ^ 31 by omega)]
      simp only [ln_t]
      rw [show go_elt 12 (s p) = 16 + s p from rfl, k_T (by omega), go_in_nI ht (by decide), nI_clamp (show tc < 2 ^ 31 by omega), show go_elt 12 tc = 16 + tc from rfl, k_T ht, go_in_nI (show p + 1 < 20 by omega) (by decide), nI_clamp (show p + 1 < 2 ^ 31 by omega), h3 _ _ (show ¬ 16 + s p = 13 by omega), h3 _ _ (show ¬ 16 + tc = 13 by omega)]
      show ∃ q v', q ≤ p + 1 ∧ (gd true (gd true (gd true _))) = _ ∧ _
      rw [gd_t, gd_t, gd_t]
      by_cases e : c2 (16 + s p) 1 ≤ c2 (16 + tc) 1
      · rw [br_y e, gd_t]
        rw [Int32.le_iff_toInt_le] at e
        refine ⟨p + 1, _, Nat.le_refl _, rfl, fun j hj => ?_, u2_s, fun j hj hj2 => ?_, fun k j hk => ?_, fun _ => e, fun j hj hj2 => by omega⟩
        · rw [u2_o (by omega)]; exact h1 j hj
        · rw [u2_o (by omega)]; exact h2 j hj hj2
        · rw [u2_o (by omega)]; exact h3 k j hk
      · rw [br_n e, gd_t, gd_t, nI_m1]
        rw [Int32.le_iff_toInt_le] at e
        have hx : ∀ j, p < j → j ≤ sc → u2 v 13 (p + 1) (nI (s p)) 13 j = nI (s (j - 1)) := by
          intro j hj hj2
          by_cases e9 : j = p + 1
          · subst e9; rw [u2_s]; rfl
          · rw [u2_o (by omega)]; exact h2 j (by omega) hj2
        obtain ⟨q, v', e1, e2, e3, e4, e5, e6, e7, e8⟩ := ih n (u2 v 13 (p + 1) (nI (s p))) (by omega) (by omega) (fun j hj => by rw [u2_o (by omega)]; exact h1 j (by omega)) hx (fun k j hk => by rw [u2_o (by omega)]; exact h3 k j hk)
        refine ⟨q, v', by omega, e2, e3, e4, e5, e6, e7, fun j hj hj2 => ?_⟩
        by_cases e9 : j = p
        · subst e9; omega
        · exact e8 j hj (by omega)
def t4 (c : go_V) (tc : Nat) (x1 x2 x3 x4 : Int32) : go_V := u2 (u2 (u2 (u2 (u2 c 0 4 (nI (tc + 1))) (16 + tc) 0 x1) (16 + tc) 1 x2) (16 + tc) 2 x3) (16 + tc) 3 x4
theorem t4_o {c : go_V} {tc k j : Nat} {x1 x2 x3 x4 : Int32} (h : ¬ (k = 0 ∧ j = 4) ∧ ¬ (k = 16 + tc ∧ j < 4)) : t4 c tc x1 x2 x3 x4 k j = c k j := by
  unfold t4
  rw [u2_o (by omega), u2_o (by omega), u2_o (by omega), u2_o (by omega), u2_o (by omega)]
theorem t4_0 {c : go_V} {tc : Nat} {x1 x2 x3 x4 : Int32} : t4 c tc x1 x2 x3 x4 (16 + tc) 0 = x1 := by
  unfold t4
  rw [u2_o (by omega), u2_o (by omega), u2_o (by omega), u2_s]
theorem t4_1 {c : go_V} {tc : Nat} {x1 x2 x3 x4 : Int32} : t4 c tc x1 x2 x3 x4 (16 + tc) 1 = x2 := by
  unfold t4
  rw [u2_o (by omega), u2_o (by omega), u2_s]
theorem t4_2 {c : go_V} {tc : Nat} {x1 x2 x3 x4 : Int32} : t4 c tc x1 x2 x3 x4 (16 + tc) 2 = x3 := by
  unfold t4
  rw [u2_o (by omega), u2_s]
theorem t4_3 {c : go_V} {tc : Nat} {x1 x2 x3 x4 : Int32} : t4 c tc x1 x2 x3 x4 (16 + tc) 3 = x4 := by
  unfold t4
  rw [u2_s]
theorem t4_4 {c : go_V} {tc : Nat} {x1 x2 x3 x4 : Int32} : t4 c tc x1 x2 x3 x4 0 4 = nI (tc + 1) := by
  unfold t4
  rw [u2_o (by omega), u2_o (by omega), u2_o (by omega), u2_o (by omega), u2_s]
def n4 (m : go_V) (tc : Nat) (x1 x2 x3 x4 : Int32) : go_V := u2 (u2 (u2 (u2 (u2 (u2 m 100 0 0) 102 tc x1) 103 tc x2) 104 tc x3) 105 tc x4) 100 4 (nI (tc + 1))
theorem t4_RR {uc : Nat} {c m : go_V} {tc : Nat} {x1 x2 x3 x4 : Int32} (h : RR uc c m) (ht : tc < 20) : RR uc (t4 c tc x1 x2 x3 x4) (n4 m tc x1 x2 x3 x4) := by
  unfold t4 n4
  rw [u2_comm (show ¬ (0 = 16 + tc ∧ 4 = 0) by omega), u2_comm (show ¬ (0 = 16 + tc ∧ 4 = 1) by omega), u2_comm (show ¬ (0 = 16 + tc ∧ 4 = 2) by omega), u2_comm (show ¬ (0 = 16 + tc ∧ 4 = 3) by omega)]
  exact (((((h.thr 0).upd (PP_trg (j := 0) ht (by omega)) _).upd (PP_trg (j := 1) ht (by omega)) _).upd (PP_trg (j := 2) ht (by omega)) _).upd (PP_trg (j := 3) ht (by omega)) _).upd (Or.inl ⟨rfl, rfl, by omega⟩) _
theorem n4_o {m : go_V} {tc k j : Nat} {x1 x2 x3 x4 : Int32} (h : ¬ (k = 100 ∧ (j = 0 ∨ j = 4)) ∧ ¬ (102 ≤ k ∧ k < 106)) : n4 m tc x1 x2 x3 x4 k j = m k j := by
  unfold n4
  rw [u2_o (by omega), u2_o (by omega), u2_o (by omega), u2_o (by omega), u2_o (by omega), u2_o (by omega)]
theorem m_trg {m : go_V} {tc k : Nat} {x2 x3 x4 : Int32} (h4 : m 100 4 = nI tc) (ht : tc < 20) : f_M_trigger_104 (nI k) x2 x3 x4 0 1 0 0 m = some (0, nI tc, 0, n4 m tc (nI k) x2 x3 x4) := by
  unfold f_M_trigger_104 f_M_trigger_118
  have g1 : ¬ m 100 4 = 20 := by rw [h4]; exact fun h2 => by rw [show (20 : Int32) = nI 20 from rfl, nI_eq (by omega) (by omega)] at h2; omega
  have e1 : u2 m 100 0 0 100 4 = nI tc := by rw [u2_o (by omega), h4]
  rw [br_n g1, m_t0, bd_t, nt_t, br_y i00]
  dsimp only
  simp only [ln_t]
  rw [e1, go_in_nI ht (by decide), nI_clamp (show tc < 2 ^ 31 by omega), gd_t, u2_o (show ¬ (100 = 102 ∧ 4 = tc) by omega), e1, go_in_nI ht (by decide), nI_clamp (show tc < 2 ^ 31 by omega), gd_t, u2_o (show ¬ (100 = 103 ∧ 4 = tc) by omega), u2_o (show ¬ (100 = 102 ∧ 4 = tc) by omega), e1, go_in_nI ht (by decide), nI_clamp (show tc < 2 ^ 31 by omega), gd_t, u2_o (show ¬ (100 = 104 ∧ 4 = tc) by omega), u2_o (show ¬ (100 = 103 ∧ 4 = tc) by omega), u2_o (show ¬ (100 = 102 ∧ 4 = tc) by omega), e1, go_in_nI ht (by decide), nI_clamp (show tc < 2 ^ 31 by omega), gd_t, u2_o (show ¬ (100 = 105 ∧ 4 = tc) by omega), u2_o (show ¬ (100 = 104 ∧ 4 = tc) by omega), u2_o (show ¬ (100 = 103 ∧ 4 = tc) by omega), u2_o (show ¬ (100 = 102 ∧ 4 = tc) by omega), e1, u2_s, ← nI_succ, nI_pred]
  rfl
/-- the class's own numbers behind a new trigger; its silences s' in v' -/
theorem t4_KK {c v' : go_V} {tc ic uc sc sc' : Nat} {s s' : Nat → Nat} {x1 x2 x3 x4 : Int32} (h : KK c tc ic uc sc s) (ht : tc < 20) (h2 : btw x3 0 9) (h3 : btw x4 0 100000) (h4 : x1 = 2 → btw x2 1 100000) (hv : ∀ k j, ¬ k = 13 → ¬ (k = 0 ∧ j = 6) → v' k j = t4 c tc x1 x2 x3 x4 k j) (h6 : v' 0 6 = nI sc') (h7 : sc' ≤ tc + 1) (hS : Si v' (tc + 1) sc' s') : KK v' (tc + 1) ic uc sc' s' := by
  obtain ⟨k1, k2, k3, k4, k5, k6⟩ := h
  refine ⟨?_, ?_, ?_, k4.cong (fun u j hu hj hj2 => by rw [hv _ _ (by omega) (by omega), t4_o (by omega)]), hS, k6.cong (fun a b ha hb => by rw [hv _ _ (by omega) (by omega), t4_o (by omega)])⟩
  · unfold Cv at k1 ⊢
    rw [hv 0 4 (by omega) (by omega), hv 0 8 (by omega) (by omega), hv 0 10 (by omega) (by omega), hv 0 2 (by omega) (by omega), hv 0 1 (by omega) (by omega), t4_4, t4_o (by omega), t4_o (by omega), t4_o (by omega), t4_o (by omega)]
    exact ⟨⟨rfl, k1.1.2.1, k1.1.2.2.1, h6⟩, ⟨by omega, k1.2.1.2.1, k1.2.1.2.2.1, h7⟩, k1.2.2⟩
  · intro t ht2
    by_cases e : t = tc
    · subst e
      rw [hv _ _ (by omega) (by omega), hv _ _ (by omega) (by omega), hv _ _ (by omega) (by omega), hv _ _ (by omega) (by omega), t4_0, t4_1, t4_2, t4_3]
      exact ⟨h2, h3, h4⟩
    · rw [hv _ _ (by omega) (by omega), hv _ _ (by omega) (by omega), hv _ _ (by omega) (by omega), hv _ _ (by omega) (by omega), t4_o (by omega), t4_o (by omega), t4_o (by omega), t4_o (by omega)]
      exact k2 t (by omega)
  · rw [hv 0 2 (by omega) (by omega), t4_o (by omega)]
    exact k3.cong (Int.le_refl _) (fun i j hi hj hj2 => by rw [hv _ _ (by omega) (by omega), t4_o (by omega)])
