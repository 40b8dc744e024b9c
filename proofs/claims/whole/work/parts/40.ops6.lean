/-! TOP, NEEDED, CLOSE -/
def an (c : go_V) (x : Int32) (i : Nat) : Bool := !decide (c (36 + i) 0 = 0) && !decide (c (36 + i) 1 ≤ x)
theorem s_any {c : go_V} {ic : Nat} (h12 : ic ≤ 12) (h8 : c 0 8 = nI ic) (x : Int32) : ∀ (d i n : Nat), i + d = ic → d < n → f_S_isAnyOpenAbove_2 n x (nI i) c = some (0, (if (List.range' i d).any (an c x) = true then 1 else 0), 0, c) := by
  intro d
  induction d with
  | zero =>
    intro i n he hn
    cases n with
    | zero => omega
    | succ n =>
      unfold f_S_isAnyOpenAbove_2
      rw [h8, br_y (nI_le (by omega) (by omega))]
      rfl
  | succ d ih =>
    intro i n he hn
    cases n with
    | zero => omega
    | succ n =>
      unfold f_S_isAnyOpenAbove_2 f_S_isAnyOpenAbove_37
      have hI := ih (i + 1) n (by omega) (by omega)
      rw [h8, br_n (nI_ge (by omega) (by omega)), go_in_nI (show i < 12 by omega) (by decide), gd_t, nI_clamp (by omega)]
      simp only [ln_t]
      rw [show go_elt 14 i = 36 + i from rfl, k_I (by omega), show List.range' i (d + 1) = i :: List.range' (i + 1) d from rfl, List.any_cons, ← nI_succ, hI]
      show gd true _ = _
      rw [gd_t, gd_t]
      by_cases e1 : c (36 + i) 0 = 0
      · rw [br_y e1, show an c x i = false from by unfold an; rw [decide_eq_true e1]; rfl, Bool.false_or]
      · rw [br_n e1]
        show gd true _ = _
        rw [gd_t]
        by_cases e2 : c (36 + i) 1 ≤ x
        · rw [br_y e2, show an c x i = false from by unfold an; rw [decide_eq_true e2, decide_eq_false e1]; rfl, Bool.false_or]
        · rw [br_n e2, show an c x i = true from by unfold an; rw [decide_eq_false e2, decide_eq_false e1]; rfl, Bool.true_or]
          rfl
theorem m_top {c m : go_V} {uc ic : Nat} (h12 : ic ≤ 12) (h8 : m 100 10 = nI ic) (hm : RR uc c m) (x : Int32) : ∀ (d i n : Nat) (b : Bool), i + d = ic → d < n → f_M_top_4 n x (if b = true then 1 else 0) (nI i) m = f_M_top_4 1 x (if (b || (List.range' i d).any (an c x)) = true then 1 else 0) (nI ic) m := by
  intro d
  induction d with
  | zero =>
    intro i n b he hn
    cases n with
    | zero => omega
    | succ n =>
      rw [show i = ic by omega]
      unfold f_M_top_4
      rw [h8, br_y (nI_le (by omega) (by omega)), br_y (nI_le (by omega) (by omega))]
      cases b <;> rfl
  | succ d ih =>
    intro i n b he hn
    cases n with
    | zero => omega
    | succ n =>
      have g1 : m 107 i = c (36 + i) 0 := (hm.inc (j := 0) (by omega) (by omega)).symm
      have g2 : m 108 i = c (36 + i) 1 := (hm.inc (j := 1) (by omega) (by omega)).symm
      have hT := ih (i + 1) n true (by omega) (by omega)
      have hF := ih (i + 1) n false (by omega) (by omega)
      rw [if_pos rfl] at hT
      rw [if_neg Bool.false_ne_true] at hF
      rw [show List.range' i (d + 1) = i :: List.range' (i + 1) d from rfl, List.any_cons]
      rw [show f_M_top_4 (n + 1) x (if b = true then 1 else 0) (nI i) m = (br (decide ((m 100 10) ≤ nI i)) (bd (f_M_in x (0 : Int32) (9 : Int32) m) (fun r_2 => nt r_2 (br (decide (r_2.2.1 = 0)) (f_M_top_63  (x) (if b = true then 1 else 0) (nI i) ((1 : Int32)) (r_2.2.2.2)) (f_M_top_63  (x) (if b = true then 1 else 0) (nI i) ((0 : Int32)) (r_2.2.2.2))))) (br (decide ((if b = true then (1 : Int32) else 0) = 0)) (gd (go_in (nI i) 12) (br (decide ((m 107 (nI i).toNatClampNeg) = 0)) (f_M_top_39 (f_M_top_4 n) (x) (if b = true then 1 else 0) (nI i) (m)) (gd (go_in (nI i) 12) (br (decide ((m 108 (nI i).toNatClampNeg) ≤ x)) (f_M_top_39 (f_M_top_4 n) (x) (if b = true then 1 else 0) (nI i) (m)) (f_M_top_35 (f_M_top_4 n) (x) (if b = true then 1 else 0) (nI i) (m)))))) (f_M_top_35 (f_M_top_4 n) (x) (if b = true then 1 else 0) (nI i) (m)))) from rfl]
      rw [h8, br_n (nI_ge (by omega) (by omega))]
      unfold f_M_top_35 f_M_top_39 f_M_top_40
      rw [← nI_succ, hT, hF]
      cases b with
      | true =>
        rw [if_pos rfl, br_n i10]
        rfl
      | false =>
        rw [if_neg Bool.false_ne_true, br_y i00, go_in_nI (show i < 12 by omega) (by decide), gd_t, nI_clamp (by omega), gd_t, g1, g2]
        by_cases e1 : c (36 + i) 0 = 0
        · rw [br_y e1, show an c x i = false from by unfold an; rw [decide_eq_true e1]; rfl]
          rfl
        · by_cases e2 : c (36 + i) 1 ≤ x
          · rw [br_n e1, br_y e2, show an c x i = false from by unfold an; rw [decide_eq_true e2, decide_eq_false e1]; rfl]
            rfl
          · rw [br_n e1, br_n e2, show an c x i = true from by unfold an; rw [decide_eq_false e2, decide_eq_false e1]; rfl]
            rfl
theorem o_top (x : Int32) : OpS false (f_L_top x) (f_M_top x) := by
  intro c tc ic uc sc s hK
  have h8 := hK.1.1.2.1
  have b2 := hK.1.2.1.2.1
  have hM : ∀ m, RR uc c m → f_M_top x m = f_M_top_4 1 x (if (List.range' 0 ic).any (an c x) = true then 1 else 0) (nI ic) m := by
    intro m hm
    have e := m_top b2 (hm.ic ▸ h8) hm x ic 0 FU false (by omega) (by unfold FU; omega)
    rw [if_neg Bool.false_ne_true, Bool.false_or] at e
    exact e
  have hM1 : ∀ m, RR uc c m → m 100 10 ≤ nI ic := fun m hm => by rw [← hm.ic, h8]; exact nI_le (by omega) (by omega)
  by_cases hx : btw x 0 9
  · have e0 := s_any b2 h8 x ic 0 FU (by omega) (by unfold FU; omega)
    by_cases hb : (List.range' 0 ic).any (an c x) = true
    · rw [if_pos hb] at e0
      refine op_err hK (k := 2) (by decide) ?_ (fun m hm hn => ⟨0, 0, ?_⟩)
      · unfold f_L_top f_S_top f_S_isAnyOpenAbove
        rw [s_stp_y hx, bd_t, tr_t, show f_S_isAnyOpenAbove_2 FU x 0 c = _ from e0]
        rfl
      · rw [hM m hm, if_pos hb]
        unfold f_M_top_4 f_M_top_63
        rw [br_y (hM1 m hm), m_in_y hx, bd_t, nt_t, br_n i10, m_t2]
        rfl
    · rw [if_neg hb] at e0
      refine ⟨0, u2 c 0 1 x, ?_, fun a b ha hb => u2_o (by omega), fun m hm hl hn => ⟨0, 0, u2 (u2 m 100 0 0) 100 2 x, ?_, fun a b hab => ?_, ?_, fun h => Bool.noConfusion h, tc, ic, uc, sc, s, ?_, ?_, ?_, ?_⟩⟩
      · unfold f_L_top f_S_top f_S_isAnyOpenAbove
        rw [s_stp_y hx, bd_t, tr_t, show f_S_isAnyOpenAbove_2 FU x 0 c = _ from e0]
        rfl
      · rw [hM m hm, if_neg hb]
        unfold f_M_top_4 f_M_top_63
        rw [br_y (hM1 m hm), m_in_y hx, bd_t, nt_t, br_n i10, m_t0]
        rfl
      · rw [u2_o (by omega), u2_o (by omega)]
      · rw [u2_o (by omega), u2_s]
      · exact (hm.thr 0).upd (Or.inl ⟨rfl, rfl, by omega⟩) _
      · rw [u2_o (by omega)]
        exact hl.cong (fun k j hk hk2 => u2_o (by omega)) (fun j => by rw [u2_o (by omega), u2_o (by omega)])
      · rw [u2_o (by omega), u2_o (by omega), u2_o (by omega)]
        exact hn
      · refine hK.cv (fun k j hk => u2_o (by omega)) ?_ ?_ (Nat.le_refl _)
        · have h9 := hK.1
          unfold Cv at h9 ⊢
          rw [u2_s, u2_o (by omega), u2_o (by omega), u2_o (by omega), u2_o (by omega), u2_o (by omega)]
          exact ⟨h9.1, h9.2.1, h9.2.2.1, hx⟩
        · rw [u2_o (by omega)]; exact Int.le_refl _
  · refine op_err hK (k := 1) (by decide) ?_ (fun m hm hn => ⟨0, 0, ?_⟩)
    · unfold f_L_top f_S_top
      rw [s_stp_n hx]
      rfl
    · rw [hM m hm]
      unfold f_M_top_4 f_M_top_63
      rw [br_y (hM1 m hm), m_in_n hx, bd_t, nt_t, br_y i00, m_t1]
      rfl
def cn (c : go_V) (x1 x2 : Int32) (u : Nat) : Bool := decide (c (60 + u) 2 = x1) && decide (c (60 + u) 0 = x2)
theorem s_uis {v : go_V} {u : Nat} (hu : u < 40) (x1 x2 : Int32) : f_U_isFor (60 + u) x1 x2 v = some (0, (if cn v x1 x2 u = true then 1 else 0), 0, v) := by
  unfold f_U_isFor f_U_isFor_20 cn
  rw [k_U hu]
  by_cases h1 : v (60 + u) 2 = x1
  · by_cases h2 : v (60 + u) 0 = x2
    · rw [br_y h1, br_y h2, decide_eq_true h1, decide_eq_true h2]; rfl
    · rw [br_y h1, br_n h2, decide_eq_true h1, decide_eq_false h2]; rfl
  · rw [br_n h1, decide_eq_false h1]; rfl
theorem s_uf {c : go_V} {uc : Nat} (h40 : uc ≤ 40) (h10 : c 0 10 = nI uc) (x1 x2 : Int32) : ∀ (d u n : Nat) (acc : Int32), u + d = uc → d < n → f_S_unitsFor_5 n x1 x2 acc (nI u) c = some (0, acc + nI ((List.range' u d).countP (cn c x1 x2)), 0, c) := by
  intro d
  induction d with
  | zero =>
    intro u n acc he hn
    cases n with
    | zero => omega
    | succ n =>
      unfold f_S_unitsFor_5
      rw [h10, br_y (nI_le (by omega) (by omega)), show nI (List.countP (cn c x1 x2) (List.range' u 0)) = 0 from rfl, Int32.add_zero]
  | succ d ih =>
    intro u n acc he hn
    cases n with
    | zero => omega
    | succ n =>
      unfold f_S_unitsFor_5 f_S_unitsFor_32
      rw [h10, br_n (nI_ge (by omega) (by omega)), go_in_nI (show u < 40 by omega) (by decide), gd_t, nI_clamp (by omega), ln_t, show go_elt 15 u = 60 + u from rfl, k_U (by omega), s_uis (by omega), show List.range' u (d + 1) = u :: List.range' (u + 1) d from rfl, List.countP_cons, ← nI_succ]
      show gd true _ = _
      rw [gd_t, bd_t, nt_t]
      by_cases hp : cn c x1 x2 u = true
      · rw [if_pos hp, br_n i10, ih (u + 1) n _ (by omega) (by omega), if_pos hp, nI_succ, Int32.add_assoc, Int32.add_comm 1]
      · rw [if_neg hp, br_y i00, ih (u + 1) n _ (by omega) (by omega), if_neg hp]
        rfl
theorem m_with {c m : go_V} {uc u i : Nat} (hm : RR uc c m) (hU : Un c uc) (hu : u < uc) (h40 : u < 40) (hi : i < 12) : f_M_isWith (nI u) (nI i) m = some (0, (if c (60 + u) 2 = nI i then 1 else 0), 0, m) := by
  unfold f_M_isWith f_M_isWith_23
  have g1 : m 116 u = c (60 + u) 1 := (hm.un (j := 1) hu h40 (by omega)).symm
  have g2 : m 117 u = c (60 + u) 2 := (hm.un (j := 2) hu h40 (by omega)).symm
  rw [go_in_nI h40 (by decide), gd_t, nI_clamp (by omega), g1, gd_t, g2]
  by_cases e : c (60 + u) 1 = 0
  · rw [br_y e, if_neg]
    rw [(hU u h40).1 e]
    intro h
    have h2 := congrArg Int32.toInt h
    rw [nI_toInt (by omega), show ((-1 : Int32)).toInt = -1 from rfl] at h2
    omega
  · rw [br_n e]
    by_cases e2 : c (60 + u) 2 = nI i
    · rw [br_y e2, if_pos e2]
    · rw [br_n e2, if_neg e2]
theorem m_ws {c m : go_V} {uc i : Nat} (h40 : uc ≤ 40) (h10 : m 100 19 = nI uc) (hm : RR uc c m) (hU : Un c uc) (hi : i < 12) (x2 : Int32) : ∀ (d u n : Nat) (acc : Int32), u + d = uc → d < n → f_M_withSkill_5 n (nI i) x2 acc (nI u) m = some (0, acc + nI ((List.range' u d).countP (cn c (nI i) x2)), 0, m) := by
  intro d
  induction d with
  | zero =>
    intro u n acc he hn
    cases n with
    | zero => omega
    | succ n =>
      unfold f_M_withSkill_5
      rw [h10, br_y (nI_le (by omega) (by omega)), show nI (List.countP (cn c (nI i) x2) (List.range' u 0)) = 0 from rfl, Int32.add_zero]
  | succ d ih =>
    intro u n acc he hn
    cases n with
    | zero => omega
    | succ n =>
      have g0 : m 115 u = c (60 + u) 0 := (hm.un (j := 0) (by omega) (by omega) (by omega)).symm
      unfold f_M_withSkill_5 f_M_withSkill_40 f_M_withSkill_41
      rw [h10, br_n (nI_ge (by omega) (by omega)), m_with hm hU (by omega) (by omega) hi, bd_t, nt_t, show List.range' u (d + 1) = u :: List.range' (u + 1) d from rfl, List.countP_cons, ← nI_succ]
      rw [go_in_nI (show u < 40 by omega) (by decide), gd_t, nI_clamp (by omega), Int32.add_zero]
      have i1 := ih (u + 1) n (acc + 1) (by omega) (by omega)
      have i2 := ih (u + 1) n acc (by omega) (by omega)
      by_cases e1 : c (60 + u) 2 = nI i
      · rw [if_pos e1, br_n i10]
        by_cases e2 : c (60 + u) 0 = x2
        · have hc : cn c (nI i) x2 u = true := by unfold cn; rw [decide_eq_true e1, decide_eq_true e2]; rfl
          rw [br_y (show m 115 u = x2 from g0.trans e2), if_pos hc]
          refine Eq.trans i1 ?_
          rw [nI_succ, Int32.add_assoc, Int32.add_comm 1]
        · have hc : ¬ cn c (nI i) x2 u = true := by unfold cn; rw [decide_eq_false e2, Bool.and_false]; exact Bool.false_ne_true
          rw [br_n (show ¬ m 115 u = x2 from fun h => e2 (g0.symm.trans h)), if_neg hc]
          exact i2
      · have hc : ¬ cn c (nI i) x2 u = true := by unfold cn; rw [decide_eq_false e1, Bool.false_and]; exact Bool.false_ne_true
        rw [if_neg e1, br_y i00, if_neg hc]
        exact i2
theorem o_needed (x y : Int32) : OpS true (f_L_needed x y) (f_M_needed x y) := by
  intro c tc ic uc sc s hK
  have h8 := hK.1.1.2.1
  have b2 := hK.1.2.1.2.1
  have h10 := hK.1.1.2.2.1
  have b3 := hK.1.2.1.2.2.1
  rcases rg x ic (by omega) with h | ⟨i, hi, rfl⟩
  · refine op_err hK (k := 1) (by decide) ?_ (fun m hm hn => ⟨0, 0, ?_⟩)
    · unfold f_L_needed f_S_needed
      rw [s_inc_n h8 b2 h]
      rfl
    · unfold f_M_needed f_M_needed_18 f_M_needed_23 f_M_needed_43 f_M_needed_44
      have q8 : m 100 10 = nI ic := hm.ic ▸ h8
      rw [m_inc_n q8 b2 h, bd_t, nt_t, br_y i00, br_n i10, m_t1]
      rfl
  · have i12 : i < 12 := by omega
    have ju := k_I (show i < 12 by omega)
    have jg := go_in_nI (show i < 12 by omega) (by decide)
    have jn := nI_clamp (show i < 2 ^ 31 by omega)
    by_cases hy : btw y 0 7
    · by_cases ho : c (36 + i) 0 = 0
      · refine op_err hK (k := 2) (by decide) ?_ (fun m hm hn => ⟨0, 0, ?_⟩)
        · unfold f_L_needed f_S_needed
          rw [s_inc_y h8 b2 hi, bd_t, tr_t, s_skl_y hy, bd_t, tr_t, s_cl_y (by omega) ho]
          rfl
        · unfold f_M_needed f_M_needed_18 f_M_needed_23 f_M_needed_43 f_M_needed_44
          have q8 : m 100 10 = nI ic := hm.ic ▸ h8
          have qo := ho
          rw [hm.inc (i := i) (j := 0) (by omega) (by omega)] at qo
          rw [m_inc_y q8 b2 hi, bd_t, nt_t, br_n i10, m_in_y hy, bd_t, nt_t, br_n i10, br_y i00, jg, gd_t, jn, br_y qo, m_t2]
          rfl
      · obtain ⟨b1, hb, rfl⟩ := b_rg (n := 8) rfl (by decide) hy
        have hI := (hK.2.2.1 i i12).1
        obtain ⟨a1, ha, e⟩ := vp_in_of (vp_in_iff.mpr (show 0 ≤ (c (36 + i) 1).toInt ∧ (c (36 + i) 1).toInt < (10 : Nat) by omega)) (by decide)
        refine op_get hK (c (2 + a1) b1 - nI ((List.range' 0 uc).countP (cn c (nI i) (nI b1)))) ?_ (fun m hm hn => ⟨0, ?_⟩)
        · unfold f_L_needed f_S_needed f_S_unitsFor
          have e0 := s_uf b3 h10 (nI i) (nI b1) uc 0 FU 0 (by omega) (by unfold FU; omega)
          have g1 : go_in (c (36 + i) 1) 10 = true := by rw [e]; exact go_in_nI ha (by decide)
          have g2 : (c (36 + i) 1).toNatClampNeg = a1 := by rw [e]; exact nI_clamp (by omega)
          rw [Int32.zero_add] at e0
          rw [s_inc_y h8 b2 hi, bd_t, tr_t, s_skl_y hy, bd_t, tr_t, s_cl_n (by omega) ho, bd_t, tr_t, ju, g1, g2, ln_t, show go_elt 1 a1 = 2 + a1 from rfl, (k_R ha).1, (k_R ha).2, go_in_nI hb (by decide), nI_clamp (show b1 < 2 ^ 31 by omega), show f_S_unitsFor_5 FU (nI i) (nI b1) 0 0 c = _ from e0]
          rfl
        · unfold f_M_needed f_M_needed_18 f_M_needed_23 f_M_needed_43 f_M_needed_44 f_M_withSkill
          have q8 : m 100 10 = nI ic := hm.ic ▸ h8
          have q10 : u2 m 100 0 0 100 19 = nI uc := by rw [u2_o (by omega)]; exact hm.uc ▸ h10
          have qo := ho
          rw [hm.inc (i := i) (j := 0) (by omega) (by omega)] at qo
          have g1 : u2 m 100 0 0 108 i = nI a1 := by rw [u2_o (by omega)]; exact (hm.inc (j := 1) i12 (by omega)).symm.trans e
          have g2 : u2 m 100 0 0 101 (8 * a1 + b1) = c (2 + a1) b1 := by rw [u2_o (by omega)]; exact (hm.row ha hb).symm
          have e0 := m_ws b3 q10 (hm.thr 0) hK.2.2.2.1 i12 (nI b1) uc 0 FU 0 (by omega) (by unfold FU; omega)
          rw [Int32.zero_add] at e0
          rw [m_inc_y q8 b2 hi, bd_t, nt_t, br_n i10, m_in_y hy, bd_t, nt_t, br_n i10, br_y i00, jg, gd_t, jn, br_n qo, m_t0, bd_t, nt_t, br_y i00]
          dsimp only
          rw [gd_t, g1, nI_8, go_in_nI (show 8 * a1 + b1 < 80 by omega) (by decide), gd_t, nI_clamp (show 8 * a1 + b1 < 2 ^ 31 by omega), g2, show f_M_withSkill_5 FU (nI i) (nI b1) 0 0 (u2 m 100 0 0) = _ from e0]
          rfl
    · refine op_err hK (k := 1) (by decide) ?_ (fun m hm hn => ⟨0, 0, ?_⟩)
      · unfold f_L_needed f_S_needed
        rw [s_inc_y h8 b2 hi, bd_t, tr_t, s_skl_n hy]
        rfl
      · unfold f_M_needed f_M_needed_18 f_M_needed_23 f_M_needed_43 f_M_needed_44
        have q8 : m 100 10 = nI ic := hm.ic ▸ h8
        rw [m_inc_y q8 b2 hi, bd_t, nt_t, br_n i10, m_in_n hy, bd_t, nt_t, br_y i00, br_n i10, m_t1]
        rfl
/-- the units at an incident that closes -/
def fr (x : Int32) (l : List Nat) (c : go_V) : go_V := l.foldl (fun c u => if c (60 + u) 2 = x then u3 c u 0 (-1) (-1) else c) c
theorem fr_o {x : Int32} {k j : Nat} (hk : k < 60 ∨ 100 ≤ k) : ∀ (l : List Nat) (c : go_V), (∀ u, u ∈ l → u < 40) → fr x l c k j = c k j := by
  intro l
  induction l with
  | nil => exact fun c _ => rfl
  | cons u l ih =>
    intro c hl
    have hu := hl u List.mem_cons_self
    show fr x l (if c (60 + u) 2 = x then u3 c u 0 (-1) (-1) else c) k j = c k j
    rw [ih _ (fun u h => hl u (List.mem_cons_of_mem _ h))]
    split
    · rw [u3_o (by omega)]
    · rfl
theorem fr_KK {x : Int32} {tc ic uc sc : Nat} {s : Nat → Nat} : ∀ (l : List Nat) (c : go_V), (∀ u, u ∈ l → u < uc) → KK c tc ic uc sc s → KK (fr x l c) tc ic uc sc s := by
  intro l
  induction l with
  | nil => exact fun c _ h => h
  | cons u l ih =>
    intro c hl h
    refine ih _ (fun u h => hl u (List.mem_cons_of_mem _ h)) ?_
    show KK (if c (60 + u) 2 = x then u3 c u 0 (-1) (-1) else c) tc ic uc sc s
    split
    · exact h.unt (hl u List.mem_cons_self) (fun _ => rfl)
    · exact h
theorem s_close {uc : Nat} (h40 : uc ≤ 40) (x : Int32) (k : Nat) : ∀ (d u n : Nat) (c : go_V), c 0 10 = nI uc → u + d = uc → d < n → f_S_close_17 n x k (nI u) c = some (0, 0, 0, fr x (List.range' u d) c) := by
  intro d
  induction d with
  | zero =>
    intro u n c h10 he hn
    cases n with
    | zero => omega
    | succ n =>
      unfold f_S_close_17
      rw [h10, br_y (nI_le (by omega) (by omega))]
      rfl
  | succ d ih =>
    intro u n c h10 he hn
    cases n with
    | zero => omega
    | succ n =>
      unfold f_S_close_17 f_S_close_47
      rw [h10, br_n (nI_ge (by omega) (by omega)), go_in_nI (show u < 40 by omega) (by decide), gd_t, nI_clamp (by omega)]
      simp only [ln_t]
      rw [show go_elt 15 u = 60 + u from rfl, k_U (by omega), ← nI_succ, s_free (by omega)]
      show gd true _ = some (0, 0, 0, fr x (List.range' (u + 1) d) (if c (60 + u) 2 = x then u3 c u 0 (-1) (-1) else c))
      rw [gd_t]
      by_cases e : c (60 + u) 2 = x
      · rw [br_y e, if_pos e]
        exact ih (u + 1) n _ ((u3_o (by omega)).trans h10) (by omega) (by omega)
      · rw [br_n e, if_neg e]
        exact ih (u + 1) n c h10 (by omega) (by omega)
theorem m_close {tc ic uc sc i : Nat} {s : Nat → Nat} (hi : i < 12) : ∀ (d u n : Nat) (c m : go_V), RR uc c m → KK c tc ic uc sc s → u + d = uc → d < n → ∃ m', f_M_close_36 n (nI i) (nI u) m = some (0, 0, 0, m') ∧ RR uc (fr (nI i) (List.range' u d) c) m' ∧ (∀ a b, a < 116 ∨ 118 < a → m' a b = m a b) := by
  intro d
  induction d with
  | zero =>
    intro u n c m hm hK he hn
    have h10 : m 100 19 = nI uc := hm.uc ▸ hK.1.1.2.2.1
    have b3 := hK.1.2.1.2.2.1
    cases n with
    | zero => omega
    | succ n =>
      unfold f_M_close_36
      rw [h10, br_y (nI_le (by omega) (by omega))]
      exact ⟨m, rfl, hm, fun _ _ _ => rfl⟩
  | succ d ih =>
    intro u n c m hm hK he hn
    have h10 : m 100 19 = nI uc := hm.uc ▸ hK.1.1.2.2.1
    have b3 := hK.1.2.1.2.2.1
    cases n with
    | zero => omega
    | succ n =>
      unfold f_M_close_36 f_M_close_58
      rw [h10, br_n (nI_ge (by omega) (by omega)), m_with hm hK.2.2.2.1 (by omega) (by omega) hi, bd_t, nt_t, ← nI_succ, m_free (by omega)]
      show ∃ m', _ ∧ RR uc (fr (nI i) (List.range' (u + 1) d) (if c (60 + u) 2 = nI i then u3 c u 0 (-1) (-1) else c)) m' ∧ _
      by_cases e : c (60 + u) 2 = nI i
      · rw [if_pos e, if_pos e, br_n i10, bd_t, nt_t]
        obtain ⟨m', e1, e2, e3⟩ := ih (u + 1) n (u3 c u 0 (-1) (-1)) (m3 m u 0 (-1) (-1)) (hm.unt (by omega) (by omega)) (hK.unt (by omega) (fun _ => rfl)) (by omega) (by omega)
        exact ⟨m', e1, e2, fun a b hab => (e3 a b hab).trans (m3_o (by omega))⟩
      · rw [if_neg e, if_neg e, br_y i00]
        exact ih (u + 1) n c m hm hK (by omega) (by omega)
theorem o_close (x : Int32) : OpS false (f_L_close x) (f_M_close x) := by
  intro c tc ic uc sc s hK
  have h8 := hK.1.1.2.1
  have b2 := hK.1.2.1.2.1
  have h10 := hK.1.1.2.2.1
  have b3 := hK.1.2.1.2.2.1
  rcases rg x ic (by omega) with h | ⟨i, hi, rfl⟩
  · refine op_err hK (k := 1) (by decide) ?_ (fun m hm hn => ⟨0, 0, ?_⟩)
    · unfold f_L_close f_S_close
      rw [s_inc_n h8 b2 h]
      rfl
    · unfold f_M_close f_M_close_14
      have q8 : m 100 10 = nI ic := hm.ic ▸ h8
      rw [m_inc_n q8 b2 h, bd_t, nt_t, br_y i00, m_cl_u q8 b2 h, bd_t, nt_t, m_t1]
      rfl
  · have i12 : i < 12 := by omega
    have ju := k_I (show i < 12 by omega)
    have jg := go_in_nI (show i < 12 by omega) (by decide)
    have jn := nI_clamp (show i < 2 ^ 31 by omega)
    by_cases ho : c (36 + i) 0 = 0
    · refine op_err hK (k := 2) (by decide) ?_ (fun m hm hn => ⟨0, 0, ?_⟩)
      · unfold f_L_close f_S_close
        rw [s_inc_y h8 b2 hi, bd_t, tr_t, s_cl_y (by omega) ho]
        rfl
      · unfold f_M_close f_M_close_14
        have q8 : m 100 10 = nI ic := hm.ic ▸ h8
        have qo := ho
        rw [hm.inc (i := i) (j := 0) (by omega) (by omega)] at qo
        rw [m_inc_y q8 b2 hi, bd_t, nt_t, br_n i10, m_cl_y q8 b2 hi qo, bd_t, nt_t, m_t2]
        rfl
    · have hK1 : KK (u2 c (36 + i) 0 0) tc ic uc sc s := hK.cong (fun k j hk => u2_o (by unfold NK at hk; omega))
      have h101 : u2 c (36 + i) 0 0 0 10 = nI uc := by rw [u2_o (by omega)]; exact h10
      have hlt : ∀ u, u ∈ List.range' 0 uc → u < uc := fun u hu => by rw [List.mem_range'_1] at hu; omega
      have hlt2 : ∀ u, u ∈ List.range' 0 uc → u < 40 := fun u hu => by have := hlt u hu; omega
      refine ⟨0, fr (nI i) (List.range' 0 uc) (u2 c (36 + i) 0 0), ?_, fun a b ha hb => ?_, fun m hm hl hn => ?_⟩
      · unfold f_L_close f_S_close
        have e0 := s_close b3 (nI i) (36 + i) uc 0 FU _ h101 (by omega) (by unfold FU; omega)
        rw [s_inc_y h8 b2 hi, bd_t, tr_t, s_cl_n (by omega) ho, bd_t, tr_t, ju]
        show bd (f_S_close_17 FU (nI i) (36 + i) 0 (u2 c (36 + i) 0 0)) _ = _
        rw [show f_S_close_17 FU (nI i) (36 + i) 0 (u2 c (36 + i) 0 0) = _ from e0]
        rfl
      · rw [fr_o (by omega) _ _ hlt2, u2_o (by omega)]
      · have q8 : m 100 10 = nI ic := hm.ic ▸ h8
        have qo := ho
        rw [hm.inc (i := i) (j := 0) (by omega) (by omega)] at qo
        obtain ⟨m', e1, e2, e3⟩ := m_close i12 uc 0 FU (u2 c (36 + i) 0 0) (u2 (u2 m 100 0 0) 107 i 0) ((hm.thr 0).upd (PP_inc (j := 0) i12 (by omega)) 0) hK1 (by omega) (by unfold FU; omega)
        refine ⟨0, 0, m', ?_, fun a b hab => ?_, ?_, fun h => Bool.noConfusion h, tc, ic, uc, sc, s, e2, ?_, ?_, fr_KK _ _ hlt hK1⟩
        · unfold f_M_close f_M_close_14
          rw [m_inc_y q8 b2 hi, bd_t, nt_t, br_n i10, m_cl_n q8 b2 hi qo, bd_t, nt_t, m_t0, bd_t, nt_t, br_y i00, jg, gd_t, jn, ln_t]
          exact e1
        · rw [e3 a b (by omega), u2_o (by omega), u2_o (by omega)]
        · rw [e3 _ _ (by omega), u2_o (by omega), u2_s]
        · rw [fr_o (by omega) _ _ hlt2, u2_o (by omega)]
          exact hl.cong (fun k j hk hk2 => by rw [fr_o (by omega) _ _ hlt2, u2_o (by omega)]) (fun j => by rw [e3 _ _ (by omega), u2_o (by omega), u2_o (by omega)])
        · rw [fr_o (by omega) _ _ hlt2, u2_o (by omega), e3 _ _ (by omega), u2_o (by omega), u2_o (by omega)]
          exact hn
