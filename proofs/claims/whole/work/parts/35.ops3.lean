/-! OPS without loops: arrive, go, unit, row -/
theorem o_arrive (x : Int32) : OpS false (f_L_arrive x) (f_M_arrive x) := by
  intro c tc ic uc sc s hK
  have h8 := hK.1.1.2.1
  have b2 := hK.1.2.1.2.1
  have h10 := hK.1.1.2.2.1
  have b3 := hK.1.2.1.2.2.1
  rcases rg x uc (by omega) with h | ⟨u, hu, rfl⟩
  · refine op_err hK (k := 1) (by decide) ?_ (fun m hm hn => ⟨0, 0, ?_⟩)
    · unfold f_L_arrive f_S_arrive
      rw [s_unt_n h10 b3 h]
      rfl
    · unfold f_M_arrive f_M_arrive_13 f_M_arrive_34 f_M_arrive_35
      rw [m_unt_n (hm.uc ▸ h10) b3 h, bd_t, nt_t, br_y i00, br_n i10, m_t1]
      rfl
  · have ju := k_U (show u < 40 by omega)
    have jg := go_in_nI (show u < 40 by omega) (by decide)
    have jn := nI_clamp (show u < 2 ^ 31 by omega)
    by_cases hd : c (60 + u) 1 = 1
    · refine ⟨0, u2 c (60 + u) 1 2, ?_, fun a b ha hb => u2_o (by omega), fun m hm hl hn => ⟨0, 0, u2 (u2 m 100 0 0) 116 u 2, ?_, fun a b hab => ?_, ?_, fun h => Bool.noConfusion h, tc, ic, uc, sc, s, ?_, ?_, ?_, ?_⟩⟩
      · unfold f_L_arrive f_S_arrive
        rw [s_unt_y h10 b3 hu, bd_t, tr_t, ju, br_y hd]
        rfl
      · unfold f_M_arrive f_M_arrive_13 f_M_arrive_34 f_M_arrive_35
        have q10 : m 100 19 = nI uc := hm.uc ▸ h10
        have qd := hd
        rw [hm.un (j := 1) hu (by omega) (by omega)] at qd
        rw [m_unt_y q10 b3 hu, bd_t, nt_t, br_n i10, br_y i00, jg, gd_t, jn, br_y qd, m_t0, bd_t, nt_t, br_y i00, gd_t, ln_t]
      · rw [u2_o (by omega), u2_o (by omega)]
      · rw [u2_o (by omega), u2_s]
      · exact (hm.thr 0).upd (by unfold PP; omega) _
      · rw [u2_o (by omega)]
        exact hl.cong (fun k j hk hk2 => u2_o (by omega)) (fun j => by rw [u2_o (by omega), u2_o (by omega)])
      · rw [u2_o (by omega), u2_o (by omega), u2_o (by omega)]
        exact hn
      · refine (hK.unt (x := 2) (y := c (60 + u) 2) (z := c (60 + u) 3) hu (fun h => absurd h (by decide))).cong (fun k j hk => ?_)
        unfold u3 u2
        repeat' split
        all_goals first | rfl | omega | (rename_i e1 e2 e3; obtain ⟨rfl, rfl⟩ := e2; rfl) | (rename_i e1 e2; obtain ⟨rfl, rfl⟩ := e2; rfl)
    · refine op_err hK (k := 2) (by decide) ?_ (fun m hm hn => ⟨0, 0, ?_⟩)
      · unfold f_L_arrive f_S_arrive
        rw [s_unt_y h10 b3 hu, bd_t, tr_t, ju, br_n hd]
        rfl
      · unfold f_M_arrive f_M_arrive_13 f_M_arrive_34 f_M_arrive_35
        have q10 : m 100 19 = nI uc := hm.uc ▸ h10
        have qd := hd
        rw [hm.un (j := 1) hu (by omega) (by omega)] at qd
        rw [m_unt_y q10 b3 hu, bd_t, nt_t, br_n i10, br_y i00, jg, gd_t, jn, br_n qd, m_t2]
        rfl
theorem m_go_u {x1 x2 x3 : Int32} {m : go_V} : f_M_go_21 x1 x2 x3 1 m = some (0, 0, 0, u2 m 100 0 1) := by
  unfold f_M_go_21 f_M_go_41 f_M_go_68 f_M_go_69
  by_cases h : btw x3 0 99999
  · rw [m_in_y h, bd_t, nt_t, br_n i10, br_n i10, m_t1]; rfl
  · rw [m_in_n h, bd_t, nt_t, br_y i00, br_n i10, m_t1]; rfl
theorem o_go (x y z : Int32) : OpS false (f_L_go x y z) (f_M_go x y z) := by
  intro c tc ic uc sc s hK
  have h8 := hK.1.1.2.1
  have b2 := hK.1.2.1.2.1
  have h10 := hK.1.1.2.2.1
  have b3 := hK.1.2.1.2.2.1
  rcases rg x uc (by omega) with h | ⟨u, hu, rfl⟩
  · refine op_err hK (k := 1) (by decide) ?_ (fun m hm hn => ⟨0, 0, ?_⟩)
    · unfold f_L_go f_S_go
      rw [s_unt_n h10 b3 h]
      rfl
    · unfold f_M_go f_M_go_16
      rw [m_unt_n (hm.uc ▸ h10) b3 h, bd_t, nt_t, br_y i00, m_go_u]
  · have ju := k_U (show u < 40 by omega)
    have jg := go_in_nI (show u < 40 by omega) (by decide)
    have jn := nI_clamp (show u < 2 ^ 31 by omega)
    rcases rg y ic (by omega) with h | ⟨i, hi, rfl⟩
    · refine op_err hK (k := 1) (by decide) ?_ (fun m hm hn => ⟨0, 0, ?_⟩)
      · unfold f_L_go f_S_go
        rw [s_unt_y h10 b3 hu, bd_t, tr_t, s_inc_n h8 b2 h]
        rfl
      · unfold f_M_go f_M_go_16
        have q10 : m 100 19 = nI uc := hm.uc ▸ h10
        have q8 : m 100 10 = nI ic := hm.ic ▸ h8
        rw [m_unt_y q10 b3 hu, bd_t, nt_t, br_n i10, m_inc_n q8 b2 h, bd_t, nt_t, br_y i00, m_go_u]
    · have iu := k_I (show i < 12 by omega)
      have ig := go_in_nI (show i < 12 by omega) (by decide)
      have inn := nI_clamp (show i < 2 ^ 31 by omega)
      by_cases hz : btw z 0 99999
      · by_cases hd : c (60 + u) 1 = 0
        · by_cases ho : c (36 + i) 0 = 0
          · refine op_err hK (k := 3) (by decide) ?_ (fun m hm hn => ⟨0, 0, ?_⟩)
            · unfold f_L_go f_S_go
              rw [s_unt_y h10 b3 hu, bd_t, tr_t, s_inc_y h8 b2 hi, bd_t, tr_t, s_out_y hz, bd_t, tr_t, ju, br_y hd, s_cl_y (by omega) ho]
              rfl
            · unfold f_M_go f_M_go_21 f_M_go_41 f_M_go_64 f_M_go_69
              have q10 : m 100 19 = nI uc := hm.uc ▸ h10
              have q8 : m 100 10 = nI ic := hm.ic ▸ h8
              have qd := hd
              rw [hm.un (j := 1) hu (by omega) (by omega)] at qd
              have qo := ho
              rw [hm.inc (i := i) (j := 0) (by omega) (by omega)] at qo
              rw [m_unt_y q10 b3 hu, bd_t, nt_t, br_n i10, m_inc_y q8 b2 hi, bd_t, nt_t, br_n i10, m_in_y hz, bd_t, nt_t, br_n i10, br_y i00, jg, gd_t, jn, br_y qd, ig, gd_t, inn, br_y qo, m_t3]
              rfl
          · refine ⟨0, u3 c u 1 (nI i) z, ?_, fun a b ha hb => u3_o (by omega), fun m hm hl hn => ⟨0, 0, m3 (u2 m 100 0 0) u 1 (nI i) z, ?_, fun a b hab => ?_, ?_, fun h => Bool.noConfusion h, tc, ic, uc, sc, s, ?_, ?_, ?_, ?_⟩⟩
            · unfold f_L_go f_S_go
              rw [s_unt_y h10 b3 hu, bd_t, tr_t, s_inc_y h8 b2 hi, bd_t, tr_t, s_out_y hz, bd_t, tr_t, ju, br_y hd, s_cl_n (by omega) ho]
              rfl
            · unfold f_M_go f_M_go_21 f_M_go_41 f_M_go_68 f_M_go_69
              have q10 : m 100 19 = nI uc := hm.uc ▸ h10
              have q8 : m 100 10 = nI ic := hm.ic ▸ h8
              have qd := hd
              rw [hm.un (j := 1) hu (by omega) (by omega)] at qd
              have qo := ho
              rw [hm.inc (i := i) (j := 0) (by omega) (by omega)] at qo
              rw [m_unt_y q10 b3 hu, bd_t, nt_t, br_n i10, m_inc_y q8 b2 hi, bd_t, nt_t, br_n i10, m_in_y hz, bd_t, nt_t, br_n i10, br_y i00, jg, gd_t, jn, br_y qd, ig, gd_t, inn, br_n qo, m_t0, bd_t, nt_t, br_y i00]
              rfl
            · rw [m3_o (by omega), u2_o (by omega)]
            · rw [m3_o (by omega), u2_s]
            · exact (hm.thr 0).unt hu (by omega)
            · rw [u3_o (by omega)]
              exact hl.cong (fun k j hk hk2 => u3_o (by omega)) (fun j => by rw [m3_o (by omega), u2_o (by omega)])
            · rw [u3_o (by omega), m3_o (by omega), u2_o (by omega)]
              exact hn
            · exact hK.unt hu (fun h => absurd h (by decide))
        · refine op_err hK (k := 3) (by decide) ?_ (fun m hm hn => ⟨0, 0, ?_⟩)
          · unfold f_L_go f_S_go
            rw [s_unt_y h10 b3 hu, bd_t, tr_t, s_inc_y h8 b2 hi, bd_t, tr_t, s_out_y hz, bd_t, tr_t, ju, br_n hd]
            rfl
          · unfold f_M_go f_M_go_21 f_M_go_41 f_M_go_64 f_M_go_69
            have q10 : m 100 19 = nI uc := hm.uc ▸ h10
            have q8 : m 100 10 = nI ic := hm.ic ▸ h8
            have qd := hd
            rw [hm.un (j := 1) hu (by omega) (by omega)] at qd
            rw [m_unt_y q10 b3 hu, bd_t, nt_t, br_n i10, m_inc_y q8 b2 hi, bd_t, nt_t, br_n i10, m_in_y hz, bd_t, nt_t, br_n i10, br_y i00, jg, gd_t, jn, br_n qd, m_t3]
            rfl
      · refine op_err hK (k := 2) (by decide) ?_ (fun m hm hn => ⟨0, 0, ?_⟩)
        · unfold f_L_go f_S_go
          rw [s_unt_y h10 b3 hu, bd_t, tr_t, s_inc_y h8 b2 hi, bd_t, tr_t, s_out_n hz]
          rfl
        · unfold f_M_go f_M_go_21 f_M_go_41 f_M_go_64 f_M_go_68 f_M_go_69
          have q10 : m 100 19 = nI uc := hm.uc ▸ h10
          have q8 : m 100 10 = nI ic := hm.ic ▸ h8
          rw [m_unt_y q10 b3 hu, bd_t, nt_t, br_n i10, m_inc_y q8 b2 hi, bd_t, nt_t, br_n i10, m_in_n hz, bd_t, nt_t, br_y i00, br_y i00, jg, gd_t, jn, ig, gd_t, inn]
          simp only [m_t2, br_if]
          split
          · split <;> rfl
          · rfl
theorem RR.grow {uc : Nat} {c m : go_V} (h : RR uc c m) (h4 : ∀ j, j < 4 → c (60 + uc) j = m (115 + j) uc) : RR (uc + 1) c m := by
  intro kc jc km jm hp
  by_cases e : kc = 60 + uc
  · subst e
    have hp2 := hp
    unfold PP at hp2
    have e1 : km = 115 + jc := by omega
    have e2 : jm = uc := by omega
    subst e1
    subst e2
    exact h4 jc (by omega)
  · refine h _ _ _ _ ?_
    rcases hp with h | h | h | h | h
    · exact Or.inl h
    · exact Or.inr (Or.inl h)
    · exact Or.inr (Or.inr (Or.inl h))
    · exact Or.inr (Or.inr (Or.inr (Or.inl h)))
    · exact Or.inr (Or.inr (Or.inr (Or.inr ⟨h.1, by omega, h.2.2⟩)))
theorem m_free {m : go_V} {u : Nat} (h : u < 40) : f_M_free (nI u) m = some (0, 0, 0, m3 m u 0 (-1) (-1)) := by
  unfold f_M_free
  rw [go_in_nI h (by decide), nI_clamp (by omega)]
  rfl
theorem s_free {c : go_V} {u : Nat} (h : u < 40) : f_U_setFree (60 + u) c = some (0, 0, 0, u3 c u 0 (-1) (-1)) := by
  unfold f_U_setFree
  rw [k_U h]
  rfl
theorem o_unit (x : Int32) : OpS true (f_L_unit x) (f_M_unit x) := by
  intro c tc ic uc sc s hK
  have h8 := hK.1.1.2.1
  have b2 := hK.1.2.1.2.1
  have h10 := hK.1.1.2.2.1
  have b3 := hK.1.2.1.2.2.1
  by_cases hx : btw x 0 7
  · by_cases h : uc < 40
    · have ju := k_U h
      have jg := go_in_nI h (by decide)
      have jn := nI_clamp (show uc < 2 ^ 31 by omega)
      refine ⟨0, u2 (u2 (u2 c 0 10 (nI (uc + 1))) (60 + uc) 0 x) 119 0 (nI uc), ?_, fun a b ha hb => ?_, fun m hm hl hn => ⟨nI uc, 0, u2 (m3 (u2 (u2 m 100 0 0) 115 uc x) uc 0 (-1) (-1)) 100 19 (nI (uc + 1)), ?_, fun a b hab => ?_, ?_, fun _ _ => u2_s, tc, ic, uc + 1, sc, s, ?_, ?_, ?_, ?_⟩⟩
      · unfold f_L_unit f_S_unit
        have g1 : c 0 10 < 40 := by rw [h10]; exact nI_lt h (by decide)
        have g2 : go_in (c 0 10) 40 = true := by rw [h10]; exact jg
        have g3 : (c 0 10).toNatClampNeg = uc := by rw [h10]; exact jn
        rw [s_skl_y hx, bd_t, tr_t, br_y g1, ln_t, g2, gd_t, g3, ln_t, show go_elt 15 uc = 60 + uc from rfl, ju]
        show some (0, (0 : Int32), 0, u2 (u2 (u2 c 0 10 (c 0 10 + 1)) (60 + uc) 0 x) 119 0 (c 0 10)) = _
        rw [h10, ← nI_succ]
      · rw [u2_o (by omega), u2_o (by omega), u2_o (by omega)]
      · unfold f_M_unit f_M_unit_16 f_M_unit_30
        have e1 : u2 m 100 0 0 100 19 = nI uc := by rw [u2_o (by omega), ← hm.uc, h10]
        have e2 : u2 (u2 m 100 0 0) 115 uc x 100 19 = nI uc := by rw [u2_o (by omega), e1]
        have g1 : ¬ m 100 19 = 40 := by rw [← hm.uc, h10]; exact fun h2 => by rw [show (40 : Int32) = nI 40 from rfl, nI_eq (by omega) (by omega)] at h2; omega
        rw [m_in_y hx, bd_t, nt_t, br_n i10, br_n g1, m_t0, bd_t, nt_t, br_y i00]
        dsimp only
        rw [e1, jg, gd_t, jn, ln_t, e2]
        rw [m_free h, bd_t, nt_t, ln_t]
        dsimp only
        rw [m3_o (by omega), e2, u2_s, ← nI_succ, nI_pred]
      · rw [u2_o (by omega), m3_o (by omega), u2_o (by omega), u2_o (by omega)]
      · rw [u2_o (by omega), m3_o (by omega), u2_o (by omega), u2_s]
      · have h1 := (hm.thr 0).upd (show PP uc 0 10 100 19 by unfold PP; omega) (nI (uc + 1))
        have hU := (hK.2.2.2.1 uc h).2 (Nat.le_refl _)
        refine RR.grow (fun kc jc km jm hp => ?_) (fun j hj => ?_)
        · have e := h1 _ _ _ _ hp
          unfold PP at hp
          rw [u2_o (show ¬ (kc = 119 ∧ jc = 0) by omega), u2_o (show ¬ (kc = 60 + uc ∧ jc = 0) by omega), e]
          by_cases e3 : km = 100 ∧ jm = 19
          · obtain ⟨rfl, rfl⟩ := e3
            rw [u2_s, u2_s]
          · rw [u2_o e3, u2_o e3, m3_o (by omega), u2_o (show ¬ (km = 115 ∧ jm = uc) by omega)]
        · have e : j = 0 ∨ j = 1 ∨ j = 2 ∨ j = 3 := by omega
          rcases e with rfl | rfl | rfl | rfl
          · rw [u2_o (by omega), u2_s, u2_o (by omega), m3_o (by omega), u2_s]
          · rw [u2_o (by omega), u2_o (by omega), u2_o (by omega), hU.1, u2_o (by omega)]
            unfold m3
            rw [u2_o (by omega), u2_o (by omega), u2_s]
          · rw [u2_o (by omega), u2_o (by omega), u2_o (by omega), hU.2.1, u2_o (by omega)]
            unfold m3
            rw [u2_o (by omega), u2_s]
          · rw [u2_o (by omega), u2_o (by omega), u2_o (by omega), hU.2.2, u2_o (by omega)]
            unfold m3
            rw [u2_s]
      · rw [u2_o (by omega), u2_o (by omega), u2_o (by omega)]
        exact hl.cong (fun k j hk hk2 => by rw [u2_o (by omega), u2_o (by omega), u2_o (by omega)]) (fun j => by rw [u2_o (by omega), m3_o (by omega), u2_o (by omega), u2_o (by omega)])
      · rw [u2_o (by omega), u2_o (by omega), u2_o (by omega), u2_o (by omega), m3_o (by omega), u2_o (by omega), u2_o (by omega)]
        exact hn
      · have h1 : KK (u2 c 0 10 (nI (uc + 1))) tc ic (uc + 1) sc s := by
          refine hK.cv (fun k j hk => u2_o (by omega)) ?_ ?_ (by omega)
          · have h9 := hK.1
            unfold Cv at h9 ⊢
            rw [u2_s, u2_o (by omega), u2_o (by omega), u2_o (by omega), u2_o (by omega), u2_o (by omega)]
            exact ⟨⟨h9.1.1, h9.1.2.1, rfl, h9.1.2.2.2⟩, ⟨h9.2.1.1, h9.2.1.2.1, by omega, h9.2.1.2.2.2⟩, h9.2.2⟩
          · rw [u2_o (by omega)]; exact Int.le_refl _
        exact h1.cong (fun k j hk => by unfold NK at hk; rw [u2_o (by omega), u2_o (by omega)])
    · have e : uc = 40 := by omega
      subst e
      refine op_err hK (k := 2) (by decide) ?_ (fun m hm hn => ⟨0, 0, ?_⟩)
      · unfold f_L_unit f_S_unit
        have g1 : ¬ c 0 10 < 40 := by rw [h10]; decide
        rw [s_skl_y hx, bd_t, tr_t, br_n g1]
        rfl
      · unfold f_M_unit f_M_unit_16 f_M_unit_30
        have g1 : m 100 19 = 40 := by rw [← hm.uc, h10]; decide
        rw [m_in_y hx, bd_t, nt_t, br_n i10, br_y g1, m_t2]
        rfl
  · refine op_err hK (k := 1) (by decide) ?_ (fun m hm hn => ⟨0, 0, ?_⟩)
    · unfold f_L_unit f_S_unit
      rw [s_skl_n hx]
      rfl
    · unfold f_M_unit f_M_unit_16 f_M_unit_30
      rw [m_in_n hx, bd_t, nt_t, br_y i00]
      simp only [m_t1, br_if]
      split <;> rfl
theorem m_row_u {x y z : Int32} {m : go_V} : f_M_row_26 x y z 1 m = some (0, 0, 0, u2 m 100 0 1) := by
  unfold f_M_row_26 f_M_row_41
  by_cases h : btw z 0 30
  · rw [m_in_y h, bd_t, nt_t, br_n i10, m_t1]; rfl
  · rw [m_in_n h, bd_t, nt_t, br_y i00, m_t1]; rfl
theorem b_rg {x : Int32} {n : Nat} {b : Int32} (hb : b.toInt = n - 1) (hn : n < 2 ^ 31) (h : btw x 0 b) : ∃ j : Nat, j < n ∧ x = nI j := by
  rcases rg x n hn with h1 | h1
  · exact absurd h (b_no hb h1)
  · exact h1
theorem nI_8 {a b : Nat} : (8 : Int32) * nI a + nI b = nI (8 * a + b) := by
  show Int32.ofNat 8 * Int32.ofNat a + Int32.ofNat b = Int32.ofNat (8 * a + b)
  rw [Int32.ofNat_add, Int32.ofNat_mul]
theorem nI_20 {a b : Nat} : (20 : Int32) * nI a + nI b = nI (20 * a + b) := by
  show Int32.ofNat 20 * Int32.ofNat a + Int32.ofNat b = Int32.ofNat (20 * a + b)
  rw [Int32.ofNat_add, Int32.ofNat_mul]
theorem o_row (x y z : Int32) : OpS false (f_L_row x y z) (f_M_row x y z) := by
  intro c tc ic uc sc s hK
  have h8 := hK.1.1.2.1
  have b2 := hK.1.2.1.2.1
  have h10 := hK.1.1.2.2.1
  have b3 := hK.1.2.1.2.2.1
  by_cases hx : btw x 0 9
  · by_cases hy : btw y 0 7
    · by_cases hz : btw z 0 30
      · obtain ⟨a1, ha, rfl⟩ := b_rg (n := 10) rfl (by decide) hx
        obtain ⟨b1, hb, rfl⟩ := b_rg (n := 8) rfl (by decide) hy
        refine ⟨0, u2 c (2 + a1) b1 z, ?_, fun a b ha hb => u2_o (by omega), fun m hm hl hn => ⟨0, 0, u2 (u2 m 100 0 0) 101 (8 * a1 + b1) z, ?_, fun a b hab => ?_, ?_, fun h => Bool.noConfusion h, tc, ic, uc, sc, s, ?_, ?_, ?_, ?_⟩⟩
        · unfold f_L_row f_S_row
          rw [s_stp_y hx, bd_t, tr_t, s_skl_y hy, bd_t, tr_t, s_out_y hz, bd_t, tr_t, go_in_nI ha (by decide), gd_t, nI_clamp (show a1 < 2 ^ 31 by omega), ln_t, show go_elt 1 a1 = 2 + a1 from rfl, (k_R ha).1, (k_R ha).2, go_in_nI hb (by decide), nI_clamp (show b1 < 2 ^ 31 by omega)]
          rfl
        · unfold f_M_row f_M_row_26 f_M_row_41
          rw [m_in_y hx, bd_t, nt_t, br_n i10, m_in_y hy, bd_t, nt_t, br_n i10, m_in_y hz, bd_t, nt_t, br_n i10, m_t0, bd_t, nt_t, br_y i00, nI_8, go_in_nI (show 8 * a1 + b1 < 80 by omega) (by decide), gd_t, nI_clamp (by omega), ln_t]
        · rw [u2_o (by omega), u2_o (by omega)]
        · rw [u2_o (by omega), u2_s]
        · exact (hm.thr 0).upd (by unfold PP; omega) _
        · rw [u2_o (by omega)]
          exact hl.cong (fun k j hk hk2 => u2_o (by omega)) (fun j => by rw [u2_o (by omega), u2_o (by omega)])
        · rw [u2_o (by omega), u2_o (by omega), u2_o (by omega)]
          exact hn
        · obtain ⟨h1, h2, h3, h4, h5, h6⟩ := hK
          have ht : tc ≤ 20 := h1.2.1.1
          refine ⟨h1.cong (fun j hj => u2_o (by omega)), h2.cong (fun t j ht hj => u2_o (by omega)), ?_, h4.cong (fun u j hu hj hj2 => u2_o (by omega)), h5.cong (fun j => u2_o (by omega)) (fun t j ht hj => u2_o (by omega)), fun a b ha hb => ?_⟩
          · rw [u2_o (by omega)]
            exact h3.cong (Int.le_refl _) (fun i j hi hj hj2 => u2_o (by omega))
          · unfold u2
            split
            · exact hz
            · exact h6 a b ha hb
      · refine op_err hK (k := 2) (by decide) ?_ (fun m hm hn => ⟨0, 0, ?_⟩)
        · unfold f_L_row f_S_row
          rw [s_stp_y hx, bd_t, tr_t, s_skl_y hy, bd_t, tr_t, s_out_n hz]
          rfl
        · unfold f_M_row f_M_row_26 f_M_row_41
          rw [m_in_y hx, bd_t, nt_t, br_n i10, m_in_y hy, bd_t, nt_t, br_n i10, m_in_n hz, bd_t, nt_t, br_y i00, m_t2]
          rfl
    · refine op_err hK (k := 1) (by decide) ?_ (fun m hm hn => ⟨0, 0, ?_⟩)
      · unfold f_L_row f_S_row
        rw [s_stp_y hx, bd_t, tr_t, s_skl_n hy]
        rfl
      · unfold f_M_row f_M_row_21
        rw [m_in_y hx, bd_t, nt_t, br_n i10, m_in_n hy, bd_t, nt_t, br_y i00, m_row_u]
  · refine op_err hK (k := 1) (by decide) ?_ (fun m hm hn => ⟨0, 0, ?_⟩)
    · unfold f_L_row f_S_row
      rw [s_stp_n hx]
      rfl
    · unfold f_M_row f_M_row_21
      rw [m_in_n hx, bd_t, nt_t, br_y i00, m_row_u]
