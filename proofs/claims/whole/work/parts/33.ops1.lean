/-! OPS without loops -/
theorem KK.cv {c c' : go_V} {tc ic uc sc ic' uc' : Nat} {s : Nat → Nat} (h : KK c tc ic uc sc s) (hc : ∀ k j, ¬ k = 0 → c' k j = c k j) (hC : Cv c' tc ic' uc' sc) (hn : (c 0 2).toInt ≤ (c' 0 2).toInt) (hu : uc ≤ uc') : KK c' tc ic' uc' sc s := by
  obtain ⟨h1, h2, h3, h4, h5, h7⟩ := h
  refine ⟨hC, h2.cong (fun t j ht hj => hc _ _ (by omega)), h3.cong hn (fun i j hi hj hj2 => hc _ _ (by omega)), ?_, h5.cong (fun j => hc _ _ (by omega)) (fun t j ht hj => hc _ _ (by omega)), h7.cong (fun a b ha hb => hc _ _ (by omega))⟩
  intro u hu2
  rw [hc _ _ (by omega), hc _ _ (by omega), hc _ _ (by omega)]
  exact ⟨(h4 u hu2).1, fun h => (h4 u hu2).2 (by omega)⟩
theorem b_no {x : Int32} {n : Nat} {b : Int32} (hb : b.toInt = n - 1) (h : ¬ (0 ≤ x.toInt ∧ x.toInt < n)) : ¬ btw x 0 b := by
  have c0 : (0 : Int32).toInt = 0 := rfl
  unfold btw
  omega
theorem o_count (x : Int32) : OpS true (f_L_count x) (f_M_count x) := by
  intro c tc ic uc sc s hK
  rcases rg x 4 (by decide) with h | ⟨j, hj, rfl⟩
  · refine op_err hK (k := 1) (by decide) (by unfold f_L_count f_S_count; rw [go_in_no h]; rfl) (fun m hm hn => ⟨0, 0, ?_⟩)
    unfold f_M_count f_M_count_15
    rw [m_in_n (b_no (n := 4) rfl h), bd_t, nt_t, br_y i00, m_t1]
    rfl
  · have e : j = 0 ∨ j = 1 ∨ j = 2 ∨ j = 3 := by omega
    rcases e with rfl | rfl | rfl | rfl
    · refine op_get hK (c 0 2) rfl (fun m hm hn => ⟨0, ?_⟩)
      unfold f_M_count f_M_count_15
      rw [m_in_y (by decide), bd_t, nt_t, br_n i10, m_t0, bd_t, nt_t, br_y i00, br_y (by decide)]
      dsimp only
      rw [u2_o (by omega), ← hn]
    · refine op_get hK (c 0 11) rfl (fun m hm hn => ⟨0, ?_⟩)
      unfold f_M_count f_M_count_15
      rw [m_in_y (by decide), bd_t, nt_t, br_n i10, m_t0, bd_t, nt_t, br_y i00, br_n (by decide), br_y (by decide)]
      dsimp only
      rw [u2_o (by omega), hm 0 11 100 24 (by unfold PP; omega)]
    · refine op_get hK (c 0 12) rfl (fun m hm hn => ⟨0, ?_⟩)
      unfold f_M_count f_M_count_15
      rw [m_in_y (by decide), bd_t, nt_t, br_n i10, m_t0, bd_t, nt_t, br_y i00, br_n (by decide), br_n (by decide), br_y (by decide)]
      dsimp only
      rw [u2_o (by omega), hm 0 12 100 25 (by unfold PP; omega)]
    · refine op_get hK (c 0 13) rfl (fun m hm hn => ⟨0, ?_⟩)
      unfold f_M_count f_M_count_15
      rw [m_in_y (by decide), bd_t, nt_t, br_n i10, m_t0, bd_t, nt_t, br_y i00, br_n (by decide), br_n (by decide), br_n (by decide)]
      dsimp only
      rw [u2_o (by omega), hm 0 13 100 26 (by unfold PP; omega)]
theorem o_acted (x : Int32) : OpS true (f_L_acted x) (f_M_acted x) := by
  intro c tc ic uc sc s hK
  have h4 := hK.1.1.1
  have b1 := hK.1.2.1.1
  rcases rg x tc (by omega) with h | ⟨j, hj, rfl⟩
  · refine op_err hK (k := 1) (by decide) ?_ (fun m hm hn => ⟨0, 0, ?_⟩)
    · unfold f_L_acted f_S_acted f_S_acted_12
      have c0 : (0 : Int32).toInt = 0 := rfl
      have c1 : (nI tc).toInt = tc := nI_toInt (by omega)
      by_cases h1 : x < 0
      · rw [br_y h1]; rfl
      · rw [br_n h1, h4, br_n (fun h2 => h ⟨by rw [Int32.lt_iff_toInt_lt] at h1; omega, by rw [Int32.lt_iff_toInt_lt] at h2; omega⟩)]; rfl
    · unfold f_M_acted f_M_acted_20
      rw [← hm.tc, h4, m_in_n (fun h2 => h ((btw_n (by omega)).mp h2)), bd_t, nt_t, br_y i00, m_t1]
      rfl
  · refine op_get hK (c (16 + j) 4) ?_ (fun m hm hn => ⟨0, ?_⟩)
    · unfold f_L_acted f_S_acted
      rw [br_n (nI_pos (by omega)), h4, br_y (nI_lt hj (by omega)), go_in_nI (show j < 20 by omega) (by decide), gd_t, ln_t, nI_clamp (by omega), show go_elt 12 j = 16 + j from rfl, k_T (by omega)]
      rfl
    · unfold f_M_acted f_M_acted_20
      have e := nI_toInt (show j < 2 ^ 31 by omega)
      rw [← hm.tc, h4, m_in_y ((btw_n (by omega)).mpr (by omega)), bd_t, nt_t, br_n i10, m_t0, bd_t, nt_t, br_y i00, go_in_nI (show j < 20 by omega) (by decide), gd_t, nI_clamp (by omega)]
      dsimp only
      rw [u2_o (by omega), hm.trg (j := 4) (by omega) (by omega)]
theorem o_unitAt (x y : Int32) : OpS true (f_L_unitAt x y) (f_M_unitAt x y) := by
  intro c tc ic uc sc s hK
  have h10 := hK.1.1.2.2.1
  have b3 := hK.1.2.1.2.2.1
  rcases rg x uc (by omega) with h | ⟨j, hj, rfl⟩
  · refine op_err hK (k := 1) (by decide) ?_ (fun m hm hn => ⟨0, 0, ?_⟩)
    · unfold f_L_unitAt f_S_unitAt
      rw [s_unt_n h10 b3 h]
      rfl
    · unfold f_M_unitAt f_M_unitAt_18 f_M_unitAt_23
      rw [m_unt_n (hm.uc ▸ h10) b3 h, bd_t, nt_t, br_y i00, m_t1]
      rfl
  · have ju := k_U (show j < 40 by omega)
    have jg := go_in_nI (show j < 40 by omega) (by decide)
    have jn := nI_clamp (show j < 2 ^ 31 by omega)
    rcases rg y 3 (by decide) with h | ⟨w, hw, rfl⟩
    · refine op_err hK (k := 1) (by decide) ?_ (fun m hm hn => ⟨0, 0, ?_⟩)
      · unfold f_L_unitAt f_S_unitAt
        rw [s_unt_y h10 b3 hj, bd_t, tr_t, go_in_no h]
        rfl
      · unfold f_M_unitAt f_M_unitAt_18 f_M_unitAt_23
        rw [m_unt_y (hm.uc ▸ h10) b3 hj, bd_t, nt_t, br_n i10, m_in_n (b_no (n := 3) rfl h), bd_t, nt_t, br_y i00, m_t1]
        rfl
    · have e : w = 0 ∨ w = 1 ∨ w = 2 := by omega
      rcases e with rfl | rfl | rfl
      · refine op_get hK (c (60 + j) 1) ?_ (fun m hm hn => ⟨0, ?_⟩)
        · unfold f_L_unitAt f_S_unitAt
          rw [s_unt_y h10 b3 hj, bd_t, tr_t, ju]
          rfl
        · unfold f_M_unitAt f_M_unitAt_18 f_M_unitAt_23
          rw [m_unt_y (hm.uc ▸ h10) b3 hj, bd_t, nt_t, br_n i10, m_in_y (by decide), bd_t, nt_t, br_n i10, m_t0, bd_t, nt_t, br_y i00, br_y (by decide), jg, gd_t, jn]
          dsimp only
          rw [u2_o (by omega), hm.un (j := 1) hj (by omega) (by omega)]
      · refine op_get hK (c (60 + j) 2) ?_ (fun m hm hn => ⟨0, ?_⟩)
        · unfold f_L_unitAt f_S_unitAt
          rw [s_unt_y h10 b3 hj, bd_t, tr_t, ju]
          rfl
        · unfold f_M_unitAt f_M_unitAt_18 f_M_unitAt_23
          rw [m_unt_y (hm.uc ▸ h10) b3 hj, bd_t, nt_t, br_n i10, m_in_y (by decide), bd_t, nt_t, br_n i10, m_t0, bd_t, nt_t, br_y i00, br_n (by decide), br_y (by decide), jg, gd_t, jn]
          dsimp only
          rw [u2_o (by omega), hm.un (j := 2) hj (by omega) (by omega)]
      · refine op_get hK (c (60 + j) 3) ?_ (fun m hm hn => ⟨0, ?_⟩)
        · unfold f_L_unitAt f_S_unitAt
          rw [s_unt_y h10 b3 hj, bd_t, tr_t, ju]
          rfl
        · unfold f_M_unitAt f_M_unitAt_18 f_M_unitAt_23
          rw [m_unt_y (hm.uc ▸ h10) b3 hj, bd_t, nt_t, br_n i10, m_in_y (by decide), bd_t, nt_t, br_n i10, m_t0, bd_t, nt_t, br_y i00, br_n (by decide), br_n (by decide), jg, gd_t, jn]
          dsimp only
          rw [u2_o (by omega), hm.un (j := 3) hj (by omega) (by omega)]
