/-! OPS without loops, more -/
theorem o_incident (x y : Int32) : OpS true (f_L_incident x y) (f_M_incident x y) := by
  intro c tc ic uc sc s hK
  have h8 := hK.1.1.2.1
  have b2 := hK.1.2.1.2.1
  rcases rg x ic (by omega) with h | ⟨i, hi, rfl⟩
  · refine op_err hK (k := 1) (by decide) ?_ (fun m hm hn => ⟨0, 0, ?_⟩)
    · unfold f_L_incident f_S_incident
      rw [s_inc_n h8 b2 h]
      rfl
    · unfold f_M_incident f_M_incident_19 f_M_incident_24
      rw [m_inc_n (hm.ic ▸ h8) b2 h, bd_t, nt_t, br_y i00, m_t1]
      rfl
  · have ju := k_I (show i < 12 by omega)
    have jg := go_in_nI (show i < 12 by omega) (by decide)
    have jn := nI_clamp (show i < 2 ^ 31 by omega)
    rcases rg y 7 (by decide) with h | ⟨w, hw, rfl⟩
    · refine op_err hK (k := 1) (by decide) ?_ (fun m hm hn => ⟨0, 0, ?_⟩)
      · unfold f_L_incident f_S_incident
        rw [s_inc_y h8 b2 hi, bd_t, tr_t, go_in_no h]
        rfl
      · unfold f_M_incident f_M_incident_19 f_M_incident_24
        rw [m_inc_y (hm.ic ▸ h8) b2 hi, bd_t, nt_t, br_n i10, m_in_n (b_no (n := 7) rfl h), bd_t, nt_t, br_y i00, m_t1]
        rfl
    · have e : w = 0 ∨ w = 1 ∨ w = 2 ∨ w = 3 ∨ w = 4 ∨ w = 5 ∨ w = 6 := by omega
      rcases e with rfl | rfl | rfl | rfl | rfl | rfl | rfl
      · refine op_get hK (c (36 + i) 1) ?_ (fun m hm hn => ⟨0, ?_⟩)
        · unfold f_L_incident f_S_incident
          rw [s_inc_y h8 b2 hi, bd_t, tr_t, ju]
          rfl
        · unfold f_M_incident f_M_incident_19 f_M_incident_24
          rw [m_inc_y (hm.ic ▸ h8) b2 hi, bd_t, nt_t, br_n i10, m_in_y (by decide), bd_t, nt_t, br_n i10, m_t0, bd_t, nt_t, br_y i00]
          show gd (go_in (nI i) 12) (some (0, (u2 m 100 0 0) 108 (nI i).toNatClampNeg, 0, u2 m 100 0 0)) = _
          rw [jg, gd_t, jn, u2_o (by omega), hm.inc (j := 1) (by omega) (by omega)]
      · by_cases ho : c (36 + i) 0 = 0
        · refine op_get hK 0 ?_ (fun m hm hn => ⟨0, ?_⟩)
          · unfold f_L_incident f_S_incident
            rw [s_inc_y h8 b2 hi, bd_t, tr_t, ju, br_y ho]
            rfl
          · unfold f_M_incident f_M_incident_19 f_M_incident_24
            rw [m_inc_y (hm.ic ▸ h8) b2 hi, bd_t, nt_t, br_n i10, m_in_y (by decide), bd_t, nt_t, br_n i10, m_t0, bd_t, nt_t, br_y i00]
            show gd (go_in (nI i) 12) (br (decide ((u2 m 100 0 0) 107 (nI i).toNatClampNeg = 0)) (some (0, (0 : Int32), 0, u2 m 100 0 0)) (some (0, (1 : Int32), 0, u2 m 100 0 0))) = _
            rw [jg, gd_t, jn, u2_o (by omega), br_y (hm.inc (i := i) (j := 0) (by omega) (by omega) ▸ ho)]
        · refine op_get hK 1 ?_ (fun m hm hn => ⟨0, ?_⟩)
          · unfold f_L_incident f_S_incident
            rw [s_inc_y h8 b2 hi, bd_t, tr_t, ju, br_n ho]
            rfl
          · unfold f_M_incident f_M_incident_19 f_M_incident_24
            rw [m_inc_y (hm.ic ▸ h8) b2 hi, bd_t, nt_t, br_n i10, m_in_y (by decide), bd_t, nt_t, br_n i10, m_t0, bd_t, nt_t, br_y i00]
            show gd (go_in (nI i) 12) (br (decide ((u2 m 100 0 0) 107 (nI i).toNatClampNeg = 0)) (some (0, (0 : Int32), 0, u2 m 100 0 0)) (some (0, (1 : Int32), 0, u2 m 100 0 0))) = _
            rw [jg, gd_t, jn, u2_o (by omega), br_n (hm.inc (i := i) (j := 0) (by omega) (by omega) ▸ ho)]
      · refine op_get hK (c (36 + i) 2) ?_ (fun m hm hn => ⟨0, ?_⟩)
        · unfold f_L_incident f_S_incident
          rw [s_inc_y h8 b2 hi, bd_t, tr_t, ju]
          rfl
        · unfold f_M_incident f_M_incident_19 f_M_incident_24
          rw [m_inc_y (hm.ic ▸ h8) b2 hi, bd_t, nt_t, br_n i10, m_in_y (by decide), bd_t, nt_t, br_n i10, m_t0, bd_t, nt_t, br_y i00]
          show gd (go_in (nI i) 12) (some (0, (u2 m 100 0 0) 109 (nI i).toNatClampNeg, 0, u2 m 100 0 0)) = _
          rw [jg, gd_t, jn, u2_o (by omega), hm.inc (j := 2) (by omega) (by omega)]
      · refine op_get hK (c (36 + i) 3) ?_ (fun m hm hn => ⟨0, ?_⟩)
        · unfold f_L_incident f_S_incident
          rw [s_inc_y h8 b2 hi, bd_t, tr_t, ju]
          rfl
        · unfold f_M_incident f_M_incident_19 f_M_incident_24
          rw [m_inc_y (hm.ic ▸ h8) b2 hi, bd_t, nt_t, br_n i10, m_in_y (by decide), bd_t, nt_t, br_n i10, m_t0, bd_t, nt_t, br_y i00]
          show gd (go_in (nI i) 12) (some (0, (u2 m 100 0 0) 110 (nI i).toNatClampNeg, 0, u2 m 100 0 0)) = _
          rw [jg, gd_t, jn, u2_o (by omega), hm.inc (j := 3) (by omega) (by omega)]
      · refine op_get hK (c (36 + i) 4) ?_ (fun m hm hn => ⟨0, ?_⟩)
        · unfold f_L_incident f_S_incident
          rw [s_inc_y h8 b2 hi, bd_t, tr_t, ju]
          rfl
        · unfold f_M_incident f_M_incident_19 f_M_incident_24
          rw [m_inc_y (hm.ic ▸ h8) b2 hi, bd_t, nt_t, br_n i10, m_in_y (by decide), bd_t, nt_t, br_n i10, m_t0, bd_t, nt_t, br_y i00]
          show gd (go_in (nI i) 12) (some (0, (u2 m 100 0 0) 111 (nI i).toNatClampNeg, 0, u2 m 100 0 0)) = _
          rw [jg, gd_t, jn, u2_o (by omega), hm.inc (j := 4) (by omega) (by omega)]
      · refine op_get hK (c (36 + i) 5) ?_ (fun m hm hn => ⟨0, ?_⟩)
        · unfold f_L_incident f_S_incident
          rw [s_inc_y h8 b2 hi, bd_t, tr_t, ju]
          rfl
        · unfold f_M_incident f_M_incident_19 f_M_incident_24
          rw [m_inc_y (hm.ic ▸ h8) b2 hi, bd_t, nt_t, br_n i10, m_in_y (by decide), bd_t, nt_t, br_n i10, m_t0, bd_t, nt_t, br_y i00]
          show gd (go_in (nI i) 12) (some (0, (u2 m 100 0 0) 112 (nI i).toNatClampNeg, 0, u2 m 100 0 0)) = _
          rw [jg, gd_t, jn, u2_o (by omega), hm.inc (j := 5) (by omega) (by omega)]
      · refine op_get hK (c (36 + i) 6) ?_ (fun m hm hn => ⟨0, ?_⟩)
        · unfold f_L_incident f_S_incident
          rw [s_inc_y h8 b2 hi, bd_t, tr_t, ju]
          rfl
        · unfold f_M_incident f_M_incident_19 f_M_incident_24
          rw [m_inc_y (hm.ic ▸ h8) b2 hi, bd_t, nt_t, br_n i10, m_in_y (by decide), bd_t, nt_t, br_n i10, m_t0, bd_t, nt_t, br_y i00]
          show gd (go_in (nI i) 12) (some (0, (u2 m 100 0 0) 113 (nI i).toNatClampNeg, 0, u2 m 100 0 0)) = _
          rw [jg, gd_t, jn, u2_o (by omega), hm.inc (j := 6) (by omega) (by omega)]
theorem o_tell (x : Int32) : OpS false (f_L_tell x) (f_M_tell x) := by
  intro c tc ic uc sc s hK
  have h8 := hK.1.1.2.1
  have b2 := hK.1.2.1.2.1
  rcases rg x ic (by omega) with h | ⟨i, hi, rfl⟩
  · refine op_err hK (k := 1) (by decide) ?_ (fun m hm hn => ⟨0, 0, ?_⟩)
    · unfold f_L_tell f_S_tell
      rw [s_inc_n h8 b2 h]
      rfl
    · unfold f_M_tell f_M_tell_14
      have q8 : m 100 10 = nI ic := hm.ic ▸ h8
      rw [m_inc_n q8 b2 h, bd_t, nt_t, br_y i00, m_cl_u q8 b2 h, bd_t, nt_t, m_t1]
      rfl
  · have ju := k_I (show i < 12 by omega)
    have jg := go_in_nI (show i < 12 by omega) (by decide)
    have jn := nI_clamp (show i < 2 ^ 31 by omega)
    by_cases ho : c (36 + i) 0 = 0
    · refine op_err hK (k := 2) (by decide) ?_ (fun m hm hn => ⟨0, 0, ?_⟩)
      · unfold f_L_tell f_S_tell
        rw [s_inc_y h8 b2 hi, bd_t, tr_t, s_cl_y (by omega) ho]
        rfl
      · unfold f_M_tell f_M_tell_14
        have q8 : m 100 10 = nI ic := hm.ic ▸ h8
        have qo := ho
        rw [hm.inc (i := i) (j := 0) (by omega) (by omega)] at qo
        rw [m_inc_y q8 b2 hi, bd_t, nt_t, br_n i10, m_cl_y q8 b2 hi qo, bd_t, nt_t, m_t2]
        rfl
    · refine ⟨0, u2 c (36 + i) 3 (c 0 2), ?_, fun a b ha hb => u2_o (by omega), fun m hm hl hn => ⟨0, 0, u2 (u2 m 100 0 0) 110 i (c 0 2), ?_, fun a b hab => ?_, ?_, fun h => Bool.noConfusion h, tc, ic, uc, sc, s, ?_, ?_, ?_, ?_⟩⟩
      · unfold f_L_tell f_S_tell
        rw [s_inc_y h8 b2 hi, bd_t, tr_t, s_cl_n (by omega) ho, bd_t, tr_t, ju]
        rfl
      · unfold f_M_tell f_M_tell_14
        have q8 : m 100 10 = nI ic := hm.ic ▸ h8
        have qo := ho
        rw [hm.inc (i := i) (j := 0) (by omega) (by omega)] at qo
        rw [m_inc_y q8 b2 hi, bd_t, nt_t, br_n i10, m_cl_n q8 b2 hi qo, bd_t, nt_t, m_t0, bd_t, nt_t, br_y i00, jg, gd_t, jn, ln_t]
        dsimp only
        rw [u2_o (show ¬ (100 = 100 ∧ 1 = 0) by omega), ← hn]
      · rw [u2_o (by omega), u2_o (by omega)]
      · rw [u2_o (by omega), u2_s]
      · exact (hm.thr 0).upd (by unfold PP; omega) _
      · rw [u2_o (by omega)]
        exact hl.cong (fun k j hk hk2 => u2_o (by omega)) (fun j => by rw [u2_o (by omega), u2_o (by omega)])
      · rw [u2_o (by omega), u2_o (by omega), u2_o (by omega)]
        exact hn
      · exact hK.inc (by omega) (by omega) ⟨by omega, by omega, fun _ => ⟨hK.1.2.2.1.1, Int.le_refl _⟩⟩
theorem o_begin : OpS true f_L_begin f_M_begin := by
  intro c tc ic uc sc s hK
  have h8 := hK.1.1.2.1
  have b2 := hK.1.2.1.2.1
  by_cases h : ic < 12
  · have ju := k_I h
    have jg := go_in_nI h (by decide)
    have jn := nI_clamp (show ic < 2 ^ 31 by omega)
    refine ⟨0, u2 (u2 (u2 (u2 c 0 8 (nI (ic + 1))) (36 + ic) 0 1) (36 + ic) 3 (c 0 2)) 119 0 (nI ic), ?_, fun a b ha hb => ?_, fun m hm hl hn => ⟨nI ic, 0, u2 (u2 (u2 (u2 m 100 0 0) 107 ic 1) 110 ic (c 0 2)) 100 10 (nI (ic + 1)), ?_, fun a b hab => ?_, ?_, fun _ _ => u2_s, tc, ic + 1, uc, sc, s, ?_, ?_, ?_, ?_⟩⟩
    · unfold f_L_begin f_S_begin
      rw [h8, br_y (show nI ic < (12 : Int32) from nI_lt h (by decide)), ln_t, jg, gd_t, jn, ln_t, show go_elt 14 ic = 36 + ic from rfl, ← nI_succ]
      simp only [ln_t, ju]
      show some (0, (0 : Int32), 0, u2 (u2 (u2 (u2 c 0 8 (nI (ic + 1))) (36 + ic) 0 1) (36 + ic) 3 ((u2 (u2 c 0 8 (nI (ic + 1))) (36 + ic) 0 1) 0 2)) 119 0 (nI ic)) = _
      rw [u2_o (show ¬ (0 = 36 + ic ∧ 2 = 0) by omega), u2_o (show ¬ (0 = 0 ∧ 2 = 8) by omega)]
    · rw [u2_o (by omega), u2_o (by omega), u2_o (by omega), u2_o (by omega)]
    · unfold f_M_begin f_M_begin_15
      have e1 : u2 m 100 0 0 100 10 = nI ic := by rw [u2_o (by omega), ← hm.ic, h8]
      rw [← hm.ic, h8, br_n (fun h2 => by rw [show (12 : Int32) = nI 12 from rfl, nI_eq (by omega) (by omega)] at h2; omega), m_t0, bd_t, nt_t, br_y i00]
      dsimp only
      rw [e1, jg, gd_t, jn, ln_t, u2_o (show ¬ (100 = 107 ∧ 10 = ic) by omega), e1, jg, gd_t, jn, ln_t, u2_o (show ¬ (100 = 107 ∧ 1 = ic) by omega), u2_o (show ¬ (100 = 100 ∧ 1 = 0) by omega), ← hn, u2_o (show ¬ (100 = 110 ∧ 10 = ic) by omega), u2_o (show ¬ (100 = 107 ∧ 10 = ic) by omega), e1, ln_t, u2_s, ← nI_succ, nI_pred]
    · rw [u2_o (by omega), u2_o (by omega), u2_o (by omega), u2_o (by omega)]
    · rw [u2_o (by omega), u2_o (by omega), u2_o (by omega), u2_s]
    · have h1 := (((hm.thr 0).upd (show PP uc (36 + ic) 0 107 ic by unfold PP; omega) 1).upd (show PP uc (36 + ic) 3 110 ic by unfold PP; omega) (c 0 2)).upd (show PP uc 0 8 100 10 by unfold PP; omega) (nI (ic + 1))
      refine h1.cong (fun k j hk => ?_) (fun k j _ _ _ => rfl)
      unfold u2
      repeat' split
      all_goals first | rfl | omega
    · rw [u2_o (by omega), u2_o (by omega), u2_o (by omega), u2_o (by omega)]
      exact hl.cong (fun k j hk hk2 => by rw [u2_o (by omega), u2_o (by omega), u2_o (by omega), u2_o (by omega)]) (fun j => by rw [u2_o (by omega), u2_o (by omega), u2_o (by omega), u2_o (by omega)])
    · rw [u2_o (by omega), u2_o (by omega), u2_o (by omega), u2_o (by omega), u2_o (by omega), u2_o (by omega), u2_o (by omega), u2_o (by omega)]
      exact hn
    · have h1 : KK (u2 c 0 8 (nI (ic + 1))) tc (ic + 1) uc sc s := by
        refine hK.cv (fun k j hk => u2_o (by omega)) ?_ ?_ (Nat.le_refl _)
        · have h9 := hK.1
          unfold Cv at h9 ⊢
          rw [u2_s, u2_o (by omega), u2_o (by omega), u2_o (by omega), u2_o (by omega), u2_o (by omega)]
          exact ⟨⟨h9.1.1, rfl, h9.1.2.2⟩, ⟨h9.2.1.1, by omega, h9.2.1.2.2⟩, h9.2.2⟩
        · rw [u2_o (by omega)]; exact Int.le_refl _
      have h2 : KK (u2 (u2 c 0 8 (nI (ic + 1))) (36 + ic) 0 1) tc (ic + 1) uc sc s := h1.cong (fun k j hk => u2_o (by unfold NK at hk; omega))
      have h3 := h2.inc (i := ic) (j := 3) (x := c 0 2) h (by omega) ⟨by omega, by omega, fun _ => ⟨hK.1.2.2.1.1, by rw [u2_o (by omega), u2_o (by omega)]; exact Int.le_refl _⟩⟩
      exact h3.cong (fun k j hk => u2_o (by unfold NK at hk; omega))
  · have e : ic = 12 := by omega
    subst e
    refine op_err hK (k := 1) (by decide) ?_ (fun m hm hn => ⟨0, 0, ?_⟩)
    · unfold f_L_begin f_S_begin
      rw [h8, br_n (by decide)]
      rfl
    · unfold f_M_begin f_M_begin_15
      rw [← hm.ic, h8, br_y (by decide), m_t1]
      rfl
