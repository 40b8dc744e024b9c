/-! TRIGGER: the op -/
theorem si_no {c : go_V} {tc sc : Nat} {s : Nat → Nat} {x1 x2 x3 x4 : Int32} (h : Si c tc sc s) (hx : ¬ x1 = 2) : Si (t4 c tc x1 x2 x3 x4) (tc + 1) sc s := by
  obtain ⟨h1, h2, h3⟩ := h
  refine ⟨fun j hj => ?_, fun j hj => ?_, fun t ht2 hk => ?_⟩
  · have h4 := h1 j hj
    rw [t4_o (by omega), t4_o (by omega)]
    exact ⟨h4.1, by omega, h4.2.2⟩
  · have h4 := h1 j (by omega)
    have h5 := h1 (j + 1) hj
    rw [t4_o (by omega), t4_o (by omega)]
    exact h2 j hj
  · by_cases e : t = tc
    · subst e
      rw [t4_0] at hk
      exact absurd hk hx
    · rw [t4_o (by omega)] at hk
      exact h3 t (by omega) hk
theorem si_yes {c v' : go_V} {tc sc q : Nat} {s : Nat → Nat} {x2 x3 x4 : Int32} (h : Si c tc sc s) (hq : q ≤ sc) (e3 : ∀ j, j < q → v' 13 j = nI (s j)) (e4 : v' 13 q = nI tc) (e5 : ∀ j, q < j → j ≤ sc → v' 13 j = nI (s (j - 1))) (hv : ∀ k j, ¬ k = 13 → ¬ (k = 0 ∧ j = 6) → v' k j = t4 c tc 2 x2 x3 x4 k j) (e7 : 0 < q → (t4 c tc 2 x2 x3 x4 (16 + s (q - 1)) 1).toInt ≤ (t4 c tc 2 x2 x3 x4 (16 + tc) 1).toInt) (e8 : ∀ j, q ≤ j → j < sc → (t4 c tc 2 x2 x3 x4 (16 + tc) 1).toInt < (t4 c tc 2 x2 x3 x4 (16 + s j) 1).toInt) : Si v' (tc + 1) (sc + 1) (fun j => if j < q then s j else if j = q then tc else s (j - 1)) := by
  obtain ⟨h1, h2, h3⟩ := h
  have f : ∀ t j, v' (16 + t) j = t4 c tc 2 x2 x3 x4 (16 + t) j := fun t j => hv _ _ (by omega) (by omega)
  have g : ∀ t j, t < tc → t4 c tc 2 x2 x3 x4 (16 + t) j = c (16 + t) j := fun t j ht => t4_o (by omega)
  refine ⟨fun j hj => ?_, fun j hj => ?_, fun t ht2 hk => ?_⟩
  · dsimp only
    by_cases c1 : j < q
    · rw [if_pos c1]
      have h4 := h1 j (by omega)
      rw [f, g _ _ h4.2.1]
      exact ⟨e3 j c1, by omega, h4.2.2⟩
    · by_cases c2 : j = q
      · subst c2
        rw [if_neg c1, if_pos rfl, f, t4_0]
        exact ⟨e4, by omega, rfl⟩
      · rw [if_neg c1, if_neg c2]
        have h4 := h1 (j - 1) (by omega)
        rw [f, g _ _ h4.2.1]
        exact ⟨e5 j (by omega) (by omega), by omega, h4.2.2⟩
  · dsimp only
    rw [f, f]
    by_cases c1 : j + 1 < q
    · rw [if_pos c1, if_pos (by omega), g _ _ (h1 j (by omega)).2.1, g _ _ (h1 (j + 1) (by omega)).2.1]
      exact h2 j (by omega)
    · by_cases c2 : j + 1 = q
      · rw [if_neg c1, if_pos c2, if_pos (by omega)]
        have h4 := e7 (by omega)
        have h5 := (h1 j (by omega)).2.1
        rw [show q - 1 = j by omega] at h4
        omega
      · rw [if_neg c1, if_neg c2]
        by_cases c3 : j = q
        · rw [if_neg (by omega), if_pos c3]
          have h4 := e8 j (by omega) (by omega)
          rw [show j + 1 - 1 = j by omega]
          exact Or.inl h4
        · rw [if_neg (by omega), if_neg c3, show j + 1 - 1 = (j - 1) + 1 by omega, g _ _ (h1 (j - 1) (by omega)).2.1, g _ _ (h1 (j - 1 + 1) (by omega)).2.1]
          exact h2 (j - 1) (by omega)
  · by_cases e : t = tc
    · exact ⟨q, by omega, by dsimp only; rw [if_neg (by omega), if_pos rfl]; exact e.symm⟩
    · rw [f, g _ _ (by omega)] at hk
      obtain ⟨j, hj, hj2⟩ := h3 t (by omega) hk
      by_cases c1 : j < q
      · exact ⟨j, by omega, by dsimp only; rw [if_pos c1]; exact hj2⟩
      · exact ⟨j + 1, by omega, by dsimp only; rw [if_neg (by omega), if_neg (by omega)]; exact hj2⟩
theorem s_set {c : go_V} {tc : Nat} {x1 x2 x3 x4 : Int32} (ht : tc < 20) : f_T_set (16 + tc) x1 x2 x3 x4 (u2 c 0 4 (nI (tc + 1))) = some (0, 0, 0, t4 c tc x1 x2 x3 x4) := by
  unfold f_T_set
  rw [k_T ht]
  rfl
theorem s_addS {v : go_V} {x : Int32} : f_S_addSilence x v = f_S_addSilence_15 FU x (v 0 6) (u2 v 0 6 (v 0 6 + 1)) := by
  unfold f_S_addSilence
  rw [ln_t]
theorem el2 : go_lsI 2 = 1 := by decide
theorem eg2 : go_grI 2 = 100000 := by decide
theorem o_trigger (x1 x2 x3 x4 : Int32) : OpS true (f_L_trigger x1 x2 x3 x4) (f_M_trigger x1 x2 x3 x4) := by
  intro c tc ic uc sc s hK
  have h4 := hK.1.1.1
  have h6 := hK.1.1.2.2.2
  have b1 := hK.1.2.1.1
  have b4 := hK.1.2.1.2.2.2
  rcases rg x1 4 (by decide) with h | ⟨k, hk, rfl⟩
  · refine op_err hK (k := 1) (by decide) ?_ (fun m hm hn => ⟨0, 0, ?_⟩)
    · unfold f_L_trigger f_S_trigger f_S_trigger_9
      have c0 : (0 : Int32).toInt = 0 := rfl
      have c4 : (4 : Int32).toInt = 4 := rfl
      by_cases h1 : x1 < 0
      · rw [br_y h1]; rfl
      · rw [br_n h1, br_n (fun h2 => h ⟨by rw [Int32.lt_iff_toInt_lt] at h1; omega, by rw [Int32.lt_iff_toInt_lt] at h2; omega⟩)]; rfl
    · unfold f_M_trigger f_M_trigger_19
      rw [m_in_n (b_no (n := 4) rfl h), bd_t, nt_t, br_y i00, t24_1]
  · have kk : btw (nI k) 0 3 := by
      have e := nI_toInt (show k < 2 ^ 31 by omega)
      have c0 : (0 : Int32).toInt = 0 := rfl
      have c3 : (3 : Int32).toInt = 3 := rfl
      unfold btw
      omega
    have kg := go_in_nI hk (by decide)
    have k0 : ¬ nI k < 0 := nI_pos (by omega)
    have k4 : nI k < (4 : Int32) := nI_lt hk (by decide)
    by_cases h3 : btw x3 0 9
    · by_cases h2 : btw x2 (go_lsI (nI k)) (go_grI (nI k))
      · by_cases h5 : btw x4 0 100000
        · by_cases ht : tc < 20
          · have tg := go_in_nI ht (by decide)
            have tn := nI_clamp (show tc < 2 ^ 31 by omega)
            have g4 : c 0 4 < 20 := by rw [h4]; exact nI_lt ht (by decide)
            have g5 : go_in (c 0 4) 20 = true := by rw [h4]; exact tg
            have g6 : (c 0 4).toNatClampNeg = tc := by rw [h4]; exact tn
            have hM : ∀ m, RR uc c m → f_M_trigger (nI k) x2 x3 x4 m = some (0, nI tc, 0, n4 m tc (nI k) x2 x3 x4) := by
              intro m hm
              unfold f_M_trigger
              rw [m_in_y kk, bd_t, nt_t, br_n i10, m_in_y h3, bd_t, nt_t, br_n i10, t24_0 hk, if_pos h2]
              unfold f_M_trigger_78
              rw [br_n i10, m_in_y h5, bd_t, nt_t, br_n i10]
              have q4 : m 100 4 = nI tc := hm.tc ▸ h4
              exact m_trg q4 ht
            have hw : nI k = 2 → btw x2 1 100000 := by
              intro e
              rw [e, el2, eg2] at h2
              exact h2
            by_cases e2 : nI k = 2
            · have hs := hK.2.2.2.2.1
              obtain ⟨q, v', a1, a2, a3, a4, a5, a6, a7, a8⟩ := s_sil (c2 := u2 (t4 c tc (nI k) x2 x3 x4) 0 6 (nI (sc + 1))) (s := s) ht (fun j hj => (hs.1 j hj).2.1) b4 sc FU (u2 (t4 c tc (nI k) x2 x3 x4) 0 6 (nI (sc + 1))) (Nat.le_refl _) (by unfold FU; omega) (fun j hj => by rw [u2_o (by omega), t4_o (by omega)]; exact (hs.1 j hj).1) (fun j hj hj2 => by omega) (fun _ _ _ => rfl)
              have hv : ∀ a b, ¬ a = 13 → ¬ (a = 0 ∧ b = 6) → v' a b = t4 c tc (nI k) x2 x3 x4 a b := fun a b ha hb => by rw [a6 a b ha, u2_o hb]
              have hS : Si v' (tc + 1) (sc + 1) (fun j => if j < q then s j else if j = q then tc else s (j - 1)) := by
                rw [e2] at hv a7 a8
                refine si_yes (x2 := x2) (x3 := x3) (x4 := x4) hs a1 a3 a4 a5 hv (fun h => ?_) (fun j hj hj2 => ?_)
                · have := a7 h
                  rw [u2_o (by omega), u2_o (by omega)] at this
                  exact this
                · have := a8 j hj hj2
                  rw [u2_o (by omega), u2_o (by omega)] at this
                  exact this
              have hKK : KK v' (tc + 1) ic uc (sc + 1) (fun j => if j < q then s j else if j = q then tc else s (j - 1)) := t4_KK hK ht h3 h5 hw hv (by rw [a6 0 6 (by omega), u2_s]) (by omega) hS
              refine ⟨0, u2 v' 119 0 (nI tc), ?_, fun a b ha hb => ?_, fun m hm hl hn => ⟨nI tc, 0, _, hM m hm, fun a b hab => n4_o (by omega), ?_, fun _ _ => u2_s, tc + 1, ic, uc, sc + 1, _, ?_, ?_, ?_, hKK.cong (fun a b hab => u2_o (by unfold NK at hab; omega))⟩⟩
              · unfold f_L_trigger f_S_trigger f_S_trigger_106
                rw [br_n k0, br_y k4, s_stp_y h3, bd_t, tr_t, kg, gd_t, gd_t, s_out_y h2, bd_t, tr_t, s_out_y h5, bd_t, tr_t, br_y g4, g5, g6]
                simp only [ln_t]
                rw [show go_elt 12 tc = 16 + tc from rfl, k_T ht, h4, ← nI_succ, s_set ht, gd_t, show Nat.beq 1 1 = true from rfl, gd_t, bd_t, nt_t, br_y e2]
                rw [s_addS (v := t4 c tc (nI k) x2 x3 x4), t4_o (show ¬ (0 = 0 ∧ 6 = 4) ∧ ¬ (0 = 16 + tc ∧ 6 < 4) by omega), h6, ← nI_succ, a2]
                rfl
              · rw [u2_o (by omega), hv _ _ (by omega) (by omega), t4_o (by omega)]
              · unfold n4
                rw [u2_o (by omega), u2_o (by omega), u2_o (by omega), u2_o (by omega), u2_o (by omega), u2_s]
              · intro kc jc km jm hp
                have hp2 := hp
                unfold PP at hp2
                rw [u2_o (by omega), hv _ _ (by omega) (by omega)]
                exact t4_RR hm ht _ _ _ _ hp
              · rw [u2_o (by omega), hv _ _ (by omega) (by omega), t4_o (by omega)]
                exact hl.cong (fun a b ha hb => by rw [u2_o (by omega), hv _ _ (by omega) (by omega), t4_o (by omega)]) (fun j => n4_o (by omega))
              · rw [u2_o (by omega), hv _ _ (by omega) (by omega), t4_o (by omega), n4_o (by omega)]
                exact hn
            · have hKK : KK (t4 c tc (nI k) x2 x3 x4) (tc + 1) ic uc sc s := t4_KK hK ht h3 h5 hw (fun _ _ _ _ => rfl) (by rw [t4_o (by omega)]; exact h6) (by omega) (si_no hK.2.2.2.2.1 e2)
              refine ⟨0, u2 (t4 c tc (nI k) x2 x3 x4) 119 0 (nI tc), ?_, fun a b ha hb => ?_, fun m hm hl hn => ⟨nI tc, 0, _, hM m hm, fun a b hab => n4_o (by omega), ?_, fun _ _ => u2_s, tc + 1, ic, uc, sc, s, ?_, ?_, ?_, hKK.cong (fun a b hab => u2_o (by unfold NK at hab; omega))⟩⟩
              · unfold f_L_trigger f_S_trigger f_S_trigger_106
                rw [br_n k0, br_y k4, s_stp_y h3, bd_t, tr_t, kg, gd_t, gd_t, s_out_y h2, bd_t, tr_t, s_out_y h5, bd_t, tr_t, br_y g4, g5, g6]
                simp only [ln_t]
                rw [show go_elt 12 tc = 16 + tc from rfl, k_T ht, h4, ← nI_succ, s_set ht, gd_t, show Nat.beq 1 1 = true from rfl, gd_t, bd_t, nt_t, br_n e2]
                rfl
              · rw [u2_o (by omega), t4_o (by omega)]
              · unfold n4
                rw [u2_o (by omega), u2_o (by omega), u2_o (by omega), u2_o (by omega), u2_o (by omega), u2_s]
              · exact (t4_RR hm ht).cong (fun a b ha => u2_o (by omega)) (fun _ _ _ _ _ => rfl)
              · rw [u2_o (by omega), t4_o (by omega)]
                exact hl.cong (fun a b ha hb => by rw [u2_o (by omega), t4_o (by omega)]) (fun j => n4_o (by omega))
              · rw [u2_o (by omega), t4_o (by omega), n4_o (by omega)]
                exact hn
          · have e : tc = 20 := by omega
            refine op_err hK (k := 3) (by decide) ?_ (fun m hm hn => ⟨0, 0, ?_⟩)
            · unfold f_L_trigger f_S_trigger
              have g4 : ¬ c 0 4 < 20 := by rw [h4, e]; exact nI_nlt (a := 20) (b := 20) (Nat.le_refl _) (by decide)
              rw [br_n k0, br_y k4, s_stp_y h3, bd_t, tr_t, kg, gd_t, gd_t, s_out_y h2, bd_t, tr_t, s_out_y h5, bd_t, tr_t, br_n g4]
              rfl
            · unfold f_M_trigger
              rw [m_in_y kk, bd_t, nt_t, br_n i10, m_in_y h3, bd_t, nt_t, br_n i10, t24_0 hk, if_pos h2]
              unfold f_M_trigger_78 f_M_trigger_104 f_M_trigger_118
              have g4 : m 100 4 = 20 := by rw [← hm.tc, h4, e]; rfl
              rw [br_n i10, m_in_y h5, bd_t, nt_t, br_n i10, br_y g4, m_t3]
              rfl
        · refine op_err hK (k := 2) (by decide) ?_ (fun m hm hn => ⟨0, 0, ?_⟩)
          · unfold f_L_trigger f_S_trigger
            rw [br_n k0, br_y k4, s_stp_y h3, bd_t, tr_t, kg, gd_t, gd_t, s_out_y h2, bd_t, tr_t, s_out_n h5]
            rfl
          · unfold f_M_trigger
            rw [m_in_y kk, bd_t, nt_t, br_n i10, m_in_y h3, bd_t, nt_t, br_n i10, t24_0 hk, if_pos h2]
            unfold f_M_trigger_78 f_M_trigger_99
            rw [br_n i10, m_in_n h5, bd_t, nt_t, br_y i00, t104_2]
      · refine op_err hK (k := 2) (by decide) ?_ (fun m hm hn => ⟨0, 0, ?_⟩)
        · unfold f_L_trigger f_S_trigger
          rw [br_n k0, br_y k4, s_stp_y h3, bd_t, tr_t, kg, gd_t, gd_t, s_out_n h2]
          rfl
        · unfold f_M_trigger
          rw [m_in_y kk, bd_t, nt_t, br_n i10, m_in_y h3, bd_t, nt_t, br_n i10, t24_0 hk, if_neg h2]
          unfold f_M_trigger_78 f_M_trigger_99
          rw [br_y i00, t104_2]
    · refine op_err hK (k := 1) (by decide) ?_ (fun m hm hn => ⟨0, 0, ?_⟩)
      · unfold f_L_trigger f_S_trigger
        rw [br_n k0, br_y k4, s_stp_n h3]
        rfl
      · unfold f_M_trigger f_M_trigger_19
        rw [m_in_y kk, bd_t, nt_t, br_n i10, m_in_n h3, bd_t, nt_t, br_y i00, t24_1]
