/-! WORD, HURT, ASK: the ops -/
theorem u2_self {v : go_V} {k j : Nat} : u2 v k j (v k j) = v := by
  funext a b
  unfold u2
  split
  · rename_i h; rw [h.1, h.2]
  · rfl
theorem op_run {r : Bool} {fL fM : go_V → Option go_R} {c c1 : go_V} {tc ic uc sc i : Nat} {s : Nat → Nat} (hK1 : KK c1 tc ic uc sc s) (hi : i < 12) (l : List Nat) (hl : ∀ t, t ∈ l → t < tc) (hc1 : ∀ a b, 100 ≤ a → a < 119 → c1 a b = c a b)
  (h1 : fL c = some (0, 0, 0, u2 (R i (fun _ => c1 0 2) l (c1, 0)).1 119 0 (R i (fun _ => c1 0 2) l (c1, 0)).2))
  (h2 : ∀ m, RR uc c m → LL c m (c 0 2) → c 0 2 = m 100 1 → ∃ m1 m', fM m = some (0, (R i (fun _ => c1 0 2) l (c1, 0)).2, 0, m') ∧ RR uc (R i (fun _ => c1 0 2) l (c1, 0)).1 m' ∧ LL (R i (fun _ => c1 0 2) l (c1, 0)).1 m' (c1 0 2) ∧ MF m1 m' ∧ m1 100 0 = 0 ∧ m1 100 1 = c1 0 2 ∧ (∀ a b, a < 100 ∨ a = 119 → m1 a b = m a b)) :
  ∃ (k : Int32) (c' : go_V), fL c = some (0, k, 0, c') ∧ (∀ a b, 100 ≤ a → a < 119 → c' a b = c a b) ∧
    ∀ m, RR uc c m → LL c m (c 0 2) → c 0 2 = m 100 1 → ∃ (x : Int32) (z : Nat) (m' : go_V), fM m = some (0, x, z, m') ∧ (∀ a b, a < 100 ∨ a = 119 → m' a b = m a b) ∧ m' 100 0 = k ∧ (r = true → k = 0 → c' 119 0 = x) ∧ St c' m' := by
  have ht := hK1.1.2.1.1
  have hCF : CF c1 (R i (fun _ => c1 0 2) l (c1, 0)).1 := R_CF hi l _ (fun t h => by have := hl t h; omega) (fun _ _ _ => rfl)
  have hKK := R_KK (sec := fun _ => c1 0 2) hi l (c1, 0) hl hK1
  generalize R i (fun _ => c1 0 2) l (c1, 0) = σ at h1 h2 hCF hKK
  refine ⟨0, _, h1, fun a b ha hb => ?_, fun m hm hl2 hn => ?_⟩
  · rw [u2_o (by omega), hCF a b (by omega)]
    exact hc1 a b ha hb
  · obtain ⟨m1, m', e1, e2, e3, e4, e5, e6, e7⟩ := h2 m hm hl2 hn
    refine ⟨_, 0, m', e1, fun a b hab => (e4 a b (by omega)).trans (e7 a b hab), (e4 100 0 (by omega)).trans e5, fun _ _ => u2_s, tc, ic, uc, sc, s, ?_, ?_, ?_, ?_⟩
    · exact e2.cong (fun k j hk => u2_o (by omega)) (fun _ _ _ _ _ => rfl)
    · rw [u2_o (by omega), hCF 0 2 (by omega)]
      exact e3.cong (fun k j hk hk2 => u2_o (by omega)) (fun _ => rfl)
    · rw [u2_o (by omega), hCF 0 2 (by omega), e4 100 1 (by omega)]
      exact e6.symm
    · exact hKK.cong (fun k j hk => u2_o (by unfold NK at hk; omega))
theorem rng_lt {p : Nat → Bool} {n : Nat} : ∀ t, t ∈ (List.range' 0 n).filter p → t < n := by
  intro t h
  have h1 := (List.mem_filter.mp h).1
  rw [List.mem_range'_1] at h1
  omega
theorem pr_pm {c0 : go_V} {k x : Int32} (t : Nat) : pr c0 k x x t = pm c0 k x t := by
  unfold pr pm
  by_cases h : c0 (16 + t) 1 = x
  · rw [decide_eq_true h, h, decide_eq_false (fun h2 : x < x => Int32.lt_irrefl h2)]
    simp
  · rw [decide_eq_false h]
    rcases Int32.lt_or_lt_of_ne h with h2 | h2
    · rw [decide_eq_true h2]; simp
    · rw [decide_eq_true h2]; simp
theorem LL.thr {c m : go_V} {nw x : Int32} (h : LL c m nw) : LL c (u2 m 100 0 x) nw := h.cong (fun _ _ _ _ => rfl) (fun j => u2_o (by omega))
theorem s_has {c : go_V} {tc : Nat} (ht : tc ≤ 20) (h4 : c 0 4 = nI tc) (w : Int32) : ∀ (d t n : Nat), t + d = tc → d < n → f_S_hasTriggerForWord_2 n w (nI t) c = some (0, (if (List.range' t d).any (pm c 0 w) = true then 1 else 0), 0, c) := by
  intro d
  induction d with
  | zero =>
    intro t n he hn
    cases n with
    | zero => omega
    | succ n =>
      unfold f_S_hasTriggerForWord_2
      rw [h4, br_y (nI_le (by omega) (by omega))]
      rfl
  | succ d ih =>
    intro t n he hn
    cases n with
    | zero => omega
    | succ n =>
      unfold f_S_hasTriggerForWord_2
      rw [h4, br_n (nI_ge (by omega) (by omega)), go_in_nI (show t < 20 by omega) (by decide), gd_t, nI_clamp (by omega), ln_t, show go_elt 12 t = 16 + t from rfl, k_T (by omega), s_isFor (by omega)]
      show gd true _ = _
      rw [gd_t, bd_t, nt_t, show List.range' t (d + 1) = t :: List.range' (t + 1) d from rfl, List.any_cons, ← pr_pm, ← nI_succ]
      by_cases hp : pr c 0 w w t = true
      · have hp' := hp
        unfold pr at hp'
        rw [if_pos hp', hp, br_n i10]
        rfl
      · have hp' := hp
        unfold pr at hp'
        rw [if_neg hp', br_y i00, ih (t + 1) n (by omega) (by omega), Bool.eq_false_iff.mpr hp, Bool.false_or]
theorem m_has {c m : go_V} {uc tc : Nat} (ht : tc ≤ 20) (h4 : m 100 4 = nI tc) (hm : RR uc c m) (x w : Int32) : ∀ (d t n : Nat) (b : Bool), t + d = tc → d < n → f_M_word_47 n x w (if b = true then 1 else 0) (nI t) m = f_M_word_107 x w (if (b || (List.range' t d).any (pm c 0 w)) = true then 1 else 0) (nI tc) (m 100 24) (if (b || (List.range' t d).any (pm c 0 w)) = true then 0 else 1) m := by
  intro d
  induction d with
  | zero =>
    intro t n b he hn
    cases n with
    | zero => omega
    | succ n =>
      unfold f_M_word_47
      rw [h4, br_y (nI_le (by omega) (by omega)), show t = tc by omega]
      cases b
      · rfl
      · rfl
  | succ d ih =>
    intro t n b he hn
    cases n with
    | zero => omega
    | succ n =>
      unfold f_M_word_47
      have g1 : m 102 t = c (16 + t) 0 := (hm.trg (j := 0) (by omega) (by omega)).symm
      have g2 : m 103 t = c (16 + t) 1 := (hm.trg (j := 1) (by omega) (by omega)).symm
      rw [h4, br_n (nI_ge (by omega) (by omega)), show List.range' t (d + 1) = t :: List.range' (t + 1) d from rfl, List.any_cons]
      unfold f_M_word_81 f_M_word_85 f_M_word_86
      rw [← nI_succ]
      have hT := ih (t + 1) n true (by omega) (by omega)
      have hF := ih (t + 1) n false (by omega) (by omega)
      rw [if_pos rfl] at hT
      rw [if_neg Bool.false_ne_true] at hF
      cases b with
      | true =>
        rw [if_pos rfl, br_n i10, hT]
        rfl
      | false =>
        rw [if_neg Bool.false_ne_true, br_y i00, go_in_nI (show t < 20 by omega) (by decide), gd_t, nI_clamp (by omega), gd_t, g1, g2, hT, hF]
        by_cases e1 : c (16 + t) 0 = 0
        · by_cases e2 : c (16 + t) 1 = w
          · rw [br_y e1, br_y e2, show pm c 0 w t = true from by unfold pm; rw [decide_eq_true e1, decide_eq_true e2]; rfl]
            rfl
          · rw [br_y e1, br_n e2, show pm c 0 w t = false from by unfold pm; rw [decide_eq_false e2, Bool.and_false]]
            rfl
        · rw [br_n e1, show pm c 0 w t = false from by unfold pm; rw [decide_eq_false e1, Bool.false_and]]
          rfl

theorem o_ask (x w : Int32) : OpS true (f_L_ask x w) (f_M_ask x w) := by
  intro c tc ic uc sc s hK
  have h8 := hK.1.1.2.1
  have b1 := hK.1.2.1.1
  have b2 := hK.1.2.1.2.1
  have h4 := hK.1.1.1
  have hnw := hK.1.2.2.1
  rcases rg x ic (by omega) with h | ⟨i, hi, rfl⟩
  · refine op_err hK (k := 1) (by decide) ?_ (fun m hm hn => ⟨0, 0, ?_⟩)
    · unfold f_L_ask f_S_ask
      rw [s_inc_n h8 b2 h]
      rfl
    · unfold f_M_ask f_M_ask_14 f_M_ask_29
      have q8 : m 100 10 = nI ic := hm.ic ▸ h8
      rw [m_inc_n q8 b2 h, bd_t, nt_t, br_y i00, e_M_in, bd_t, nt_t]
      simp only [m_cl_u q8 b2 h, bd_t, nt_t, m_t1, br_if]
      split <;> rfl
  · have i12 : i < 12 := by omega
    have ju := k_I (show i < 12 by omega)
    have jg := go_in_nI (show i < 12 by omega) (by decide)
    have jn := nI_clamp (show i < 2 ^ 31 by omega)
    by_cases hw : btw w 0 9
    · by_cases ho : c (36 + i) 0 = 0
      · refine op_err hK (k := 3) (by decide) ?_ (fun m hm hn => ⟨0, 0, ?_⟩)
        · unfold f_L_ask f_S_ask
          rw [s_inc_y h8 b2 hi, bd_t, tr_t, s_out_y hw, bd_t, tr_t, s_cl_y (by omega) ho]
          rfl
        · unfold f_M_ask f_M_ask_14 f_M_ask_29
          have q8 : m 100 10 = nI ic := hm.ic ▸ h8
          have qo := ho
          rw [hm.inc (i := i) (j := 0) (by omega) (by omega)] at qo
          rw [m_inc_y q8 b2 hi, bd_t, nt_t, br_n i10, m_in_y hw, bd_t, nt_t, br_n i10, m_cl_y q8 b2 hi qo, bd_t, nt_t, m_t3]
          rfl
      · refine op_run hK i12 ((List.range' 0 tc).filter (pr c 3 w w)) rng_lt (fun _ _ _ _ => rfl) ?_ (fun m hm hl hn => ?_)
        · unfold f_L_ask f_S_ask f_S_happened
          rw [s_inc_y h8 b2 hi, bd_t, tr_t, s_out_y hw, bd_t, tr_t, s_cl_n (by omega) ho, bd_t, tr_t, show (0 : Int32) = nI 0 from rfl, s_happ i12 b1 h4 3 w w tc 0 FU c (nI 0) (by omega) (by unfold FU; omega) (fun _ _ _ => rfl)]
          rfl
        · have q8 : m 100 10 = nI ic := hm.ic ▸ h8
          have qo := ho
          rw [hm.inc (i := i) (j := 0) (by omega) (by omega)] at qo
          have e1 : u2 m 100 0 0 100 1 = c 0 2 := by rw [u2_o (by omega)]; exact hn.symm
          obtain ⟨m', a1, a2, a3, a4⟩ := m_all (c0 := c) i12 hnw.1 (Int.le_refl _) hnw.2 3 w tc 0 FU c (u2 m 100 0 0) 0 (by omega) (by unfold FU; omega) (fun _ _ _ => rfl) (hm.thr 0) hl.thr hK e1
          rw [← show pr c 3 w w = pm c 3 w from funext pr_pm] at a1 a2 a3
          refine ⟨_, m', ?_, a2, a3, a4, u2_s, e1, fun a b hab => u2_o (by omega)⟩
          unfold f_M_ask f_M_ask_14 f_M_ask_29 f_M_all
          rw [m_inc_y q8 b2 hi, bd_t, nt_t, br_n i10, m_in_y hw, bd_t, nt_t, br_n i10, m_cl_n q8 b2 hi qo, bd_t, nt_t, m_t0, bd_t, nt_t, br_y i00, show f_M_all_6 FU 3 w (nI i) 0 0 (u2 m 100 0 0) = _ from a1]
          rfl
    · refine op_err hK (k := 2) (by decide) ?_ (fun m hm hn => ⟨0, 0, ?_⟩)
      · unfold f_L_ask f_S_ask
        rw [s_inc_y h8 b2 hi, bd_t, tr_t, s_out_n hw]
        rfl
      · unfold f_M_ask f_M_ask_14 f_M_ask_29
        have q8 : m 100 10 = nI ic := hm.ic ▸ h8
        rw [m_inc_y q8 b2 hi, bd_t, nt_t, br_n i10, m_in_n hw, bd_t, nt_t, br_y i00]
        by_cases ho : c (36 + i) 0 = 0
        · have qo := ho
          rw [hm.inc (i := i) (j := 0) (by omega) (by omega)] at qo
          rw [m_cl_y q8 b2 hi qo, bd_t, nt_t, m_t2]
          rfl
        · have qo := ho
          rw [hm.inc (i := i) (j := 0) (by omega) (by omega)] at qo
          rw [m_cl_n q8 b2 hi qo, bd_t, nt_t, m_t2]
          rfl
theorem pr_ph {c0 : go_V} {x3 w : Int32} (h0 : 0 ≤ x3.toInt) (h1 : x3.toInt ≤ 10000) (t : Nat) : pr c0 1 (x3 + 1) w t = ph c0 w x3 t := by
  unfold pr ph
  have c1 : (1 : Int32).toInt = 1 := rfl
  have e : (c0 (16 + t) 1 < x3 + 1) ↔ (c0 (16 + t) 1 ≤ x3) := by
    rw [Int32.lt_iff_toInt_lt, Int32.le_iff_toInt_le, i_add (by omega) (by omega)]
    omega
  rw [decide_eq_decide.mpr e]
theorem o_word (x w : Int32) : OpS true (f_L_word x w) (f_M_word x w) := by
  intro c tc ic uc sc s hK
  have h8 := hK.1.1.2.1
  have b1 := hK.1.2.1.1
  have b2 := hK.1.2.1.2.1
  have h4 := hK.1.1.1
  have hnw := hK.1.2.2.1
  rcases rg x ic (by omega) with h | ⟨i, hi, rfl⟩
  · refine op_err hK (k := 1) (by decide) ?_ (fun m hm hn => ⟨0, 0, ?_⟩)
    · unfold f_L_word f_S_word
      rw [s_inc_n h8 b2 h]
      rfl
    · unfold f_M_word f_M_word_14 f_M_word_29
      have q8 : m 100 10 = nI ic := hm.ic ▸ h8
      rw [m_inc_n q8 b2 h, bd_t, nt_t, br_y i00, e_M_in, bd_t, nt_t]
      simp only [m_cl_u q8 b2 h, bd_t, nt_t, m_t1, br_if]
      split <;> rfl
  · have i12 : i < 12 := by omega
    have ju := k_I (show i < 12 by omega)
    have jg := go_in_nI (show i < 12 by omega) (by decide)
    have jn := nI_clamp (show i < 2 ^ 31 by omega)
    by_cases hw : btw w 0 99
    · by_cases ho : c (36 + i) 0 = 0
      · refine op_err hK (k := 3) (by decide) ?_ (fun m hm hn => ⟨0, 0, ?_⟩)
        · unfold f_L_word f_S_word
          rw [s_inc_y h8 b2 hi, bd_t, tr_t, s_out_y hw, bd_t, tr_t, s_cl_y (by omega) ho]
          rfl
        · unfold f_M_word f_M_word_14 f_M_word_29
          have q8 : m 100 10 = nI ic := hm.ic ▸ h8
          have qo := ho
          rw [hm.inc (i := i) (j := 0) (by omega) (by omega)] at qo
          rw [m_inc_y q8 b2 hi, bd_t, nt_t, br_n i10, m_in_y hw, bd_t, nt_t, br_n i10, m_cl_y q8 b2 hi qo, bd_t, nt_t, m_t3]
          rfl
      · by_cases hb : (List.range' 0 tc).any (pm c 0 w) = true
        · refine op_run hK i12 ((List.range' 0 tc).filter (pr c 0 w w)) rng_lt (fun _ _ _ _ => rfl) ?_ (fun m hm hl hn => ?_)
          · unfold f_L_word f_S_word f_S_word_35 f_S_happened f_S_hasTriggerForWord
            have e0 := s_has b1 h4 w tc 0 FU (by omega) (by unfold FU; omega)
            rw [if_pos hb] at e0
            have e1 := s_happ i12 b1 h4 0 w w tc 0 FU c (nI 0) (by omega) (by unfold FU; omega) (fun _ _ _ => rfl)
            rw [s_inc_y h8 b2 hi, bd_t, tr_t, s_out_y hw, bd_t, tr_t, s_cl_n (by omega) ho, bd_t, tr_t, show f_S_hasTriggerForWord_2 FU w 0 c = _ from e0, bd_t, nt_t, br_n i10, show f_S_happened_6 FU (36 + i) 0 w w 0 0 c = _ from e1]
            rfl
          · have q8 : m 100 10 = nI ic := hm.ic ▸ h8
            have qo := ho
            rw [hm.inc (i := i) (j := 0) (by omega) (by omega)] at qo
            have e1 : u2 m 100 0 0 100 1 = c 0 2 := by rw [u2_o (by omega)]; exact hn.symm
            have e2 : u2 m 100 0 0 100 4 = nI tc := by rw [u2_o (by omega), ← hm.tc]; exact h4
            obtain ⟨m', a1, a2, a3, a4⟩ := m_all (c0 := c) i12 hnw.1 (Int.le_refl _) hnw.2 0 w tc 0 FU c (u2 m 100 0 0) 0 (by omega) (by unfold FU; omega) (fun _ _ _ => rfl) (hm.thr 0) hl.thr hK e1
            rw [← show pr c 0 w w = pm c 0 w from funext pr_pm] at a1 a2 a3
            refine ⟨_, m', ?_, a2, a3, a4, u2_s, e1, fun a b hab => u2_o (by omega)⟩
            have e3 := m_has b1 e2 (hm.thr 0) (nI i) w tc 0 FU false (by omega) (by unfold FU; omega)
            rw [if_neg Bool.false_ne_true, Bool.false_or, if_pos hb, if_pos hb] at e3
            unfold f_M_word f_M_word_14 f_M_word_29
            rw [m_inc_y q8 b2 hi, bd_t, nt_t, br_n i10, m_in_y hw, bd_t, nt_t, br_n i10, m_cl_n q8 b2 hi qo, bd_t, nt_t, m_t0, bd_t, nt_t, br_y i00, show f_M_word_47 FU (nI i) w 0 0 (u2 m 100 0 0) = _ from e3]
            unfold f_M_word_107 f_M_all
            rw [ln_t, Int32.add_zero, u2_self, show f_M_all_6 FU 0 w (nI i) 0 0 (u2 m 100 0 0) = _ from a1]
            rfl
        · have hK1 : KK (u2 c 0 11 (c 0 11 + 1)) tc ic uc sc s := hK.cong (fun k j hk => u2_o (by unfold NK at hk; omega))
          have h41 : u2 c 0 11 (c 0 11 + 1) 0 4 = nI tc := by rw [u2_o (by omega)]; exact h4
          have e20 : u2 c 0 11 (c 0 11 + 1) 0 2 = c 0 2 := u2_o (by omega)
          have hnw1 := hK1.1.2.2.1
          refine op_run hK1 i12 ((List.range' 0 tc).filter (pr (u2 c 0 11 (c 0 11 + 1)) 0 w w)) rng_lt (fun a b ha hb => u2_o (by omega)) ?_ (fun m hm hl hn => ?_)
          · unfold f_L_word f_S_word f_S_word_35 f_S_happened f_S_hasTriggerForWord
            have e0 := s_has b1 h4 w tc 0 FU (by omega) (by unfold FU; omega)
            rw [if_neg hb] at e0
            have e1 := s_happ i12 b1 h41 0 w w tc 0 FU (u2 c 0 11 (c 0 11 + 1)) (nI 0) (by omega) (by unfold FU; omega) (fun _ _ _ => rfl)
            rw [s_inc_y h8 b2 hi, bd_t, tr_t, s_out_y hw, bd_t, tr_t, s_cl_n (by omega) ho, bd_t, tr_t, show f_S_hasTriggerForWord_2 FU w 0 c = _ from e0, bd_t, nt_t, br_y i00, ln_t, show f_S_happened_6 FU (36 + i) 0 w w 0 0 (u2 c 0 11 (c 0 11 + 1)) = _ from e1]
            rfl
          · have q8 : m 100 10 = nI ic := hm.ic ▸ h8
            have qo := ho
            rw [hm.inc (i := i) (j := 0) (by omega) (by omega)] at qo
            have q24 : u2 m 100 0 0 100 24 = c 0 11 := by rw [u2_o (by omega)]; exact (hm 0 11 100 24 (Or.inl ⟨rfl, rfl, by omega⟩)).symm
            have e1 : u2 (u2 m 100 0 0) 100 24 (c 0 11 + 1) 100 1 = u2 c 0 11 (c 0 11 + 1) 0 2 := by rw [u2_o (by omega), u2_o (by omega), u2_o (by omega)]; exact hn.symm
            have e2 : u2 m 100 0 0 100 4 = nI tc := by rw [u2_o (by omega), ← hm.tc]; exact h4
            obtain ⟨m', a1, a2, a3, a4⟩ := m_all (c0 := u2 c 0 11 (c 0 11 + 1)) i12 hnw1.1 (Int.le_refl _) hnw1.2 0 w tc 0 FU (u2 c 0 11 (c 0 11 + 1)) (u2 (u2 m 100 0 0) 100 24 (c 0 11 + 1)) 0 (by omega) (by unfold FU; omega) (fun _ _ _ => rfl) ((hm.thr 0).upd (Or.inl ⟨rfl, rfl, by omega⟩) _) (by rw [e20]; exact hl.cong (fun k j hk hk2 => u2_o (by omega)) (fun j => by rw [u2_o (by omega), u2_o (by omega)])) hK1 e1
            rw [← show pr (u2 c 0 11 (c 0 11 + 1)) 0 w w = pm (u2 c 0 11 (c 0 11 + 1)) 0 w from funext pr_pm] at a1 a2 a3
            refine ⟨_, m', ?_, a2, a3, a4, by rw [u2_o (by omega), u2_s], e1, fun a b hab => by rw [u2_o (by omega), u2_o (by omega)]⟩
            have e3 := m_has b1 e2 (hm.thr 0) (nI i) w tc 0 FU false (by omega) (by unfold FU; omega)
            rw [if_neg Bool.false_ne_true, Bool.false_or, if_neg hb, if_neg hb] at e3
            unfold f_M_word f_M_word_14 f_M_word_29
            rw [m_inc_y q8 b2 hi, bd_t, nt_t, br_n i10, m_in_y hw, bd_t, nt_t, br_n i10, m_cl_n q8 b2 hi qo, bd_t, nt_t, m_t0, bd_t, nt_t, br_y i00, show f_M_word_47 FU (nI i) w 0 0 (u2 m 100 0 0) = _ from e3]
            unfold f_M_word_107 f_M_all
            rw [ln_t, q24, show f_M_all_6 FU 0 w (nI i) 0 0 (u2 (u2 m 100 0 0) 100 24 (c 0 11 + 1)) = _ from a1]
            rfl
    · refine op_err hK (k := 2) (by decide) ?_ (fun m hm hn => ⟨0, 0, ?_⟩)
      · unfold f_L_word f_S_word
        rw [s_inc_y h8 b2 hi, bd_t, tr_t, s_out_n hw]
        rfl
      · unfold f_M_word f_M_word_14 f_M_word_29
        have q8 : m 100 10 = nI ic := hm.ic ▸ h8
        rw [m_inc_y q8 b2 hi, bd_t, nt_t, br_n i10, m_in_n hw, bd_t, nt_t, br_y i00]
        by_cases ho : c (36 + i) 0 = 0
        · have qo := ho
          rw [hm.inc (i := i) (j := 0) (by omega) (by omega)] at qo
          rw [m_cl_y q8 b2 hi qo, bd_t, nt_t, m_t2]
          rfl
        · have qo := ho
          rw [hm.inc (i := i) (j := 0) (by omega) (by omega)] at qo
          rw [m_cl_n q8 b2 hi qo, bd_t, nt_t, m_t2]
          rfl
theorem o_hurt (x w : Int32) : OpS true (f_L_hurt x w) (f_M_hurt x w) := by
  intro c tc ic uc sc s hK
  have h8 := hK.1.1.2.1
  have b1 := hK.1.2.1.1
  have b2 := hK.1.2.1.2.1
  have h4 := hK.1.1.1
  have hnw := hK.1.2.2.1
  rcases rg x ic (by omega) with h | ⟨i, hi, rfl⟩
  · refine op_err hK (k := 1) (by decide) ?_ (fun m hm hn => ⟨0, 0, ?_⟩)
    · unfold f_L_hurt f_S_hurt
      rw [s_inc_n h8 b2 h]
      rfl
    · unfold f_M_hurt f_M_hurt_14 f_M_hurt_30
      have q8 : m 100 10 = nI ic := hm.ic ▸ h8
      rw [m_inc_n q8 b2 h, bd_t, nt_t, br_y i00, e_M_in, bd_t, nt_t]
      simp only [m_cl_u q8 b2 h, bd_t, nt_t, m_t1, br_if]
      split <;> rfl
  · have i12 : i < 12 := by omega
    have ju := k_I (show i < 12 by omega)
    have jg := go_in_nI (show i < 12 by omega) (by decide)
    have jn := nI_clamp (show i < 2 ^ 31 by omega)
    by_cases hw : btw w 0 10000
    · by_cases ho : c (36 + i) 0 = 0
      · refine op_err hK (k := 3) (by decide) ?_ (fun m hm hn => ⟨0, 0, ?_⟩)
        · unfold f_L_hurt f_S_hurt
          rw [s_inc_y h8 b2 hi, bd_t, tr_t, s_out_y hw, bd_t, tr_t, s_cl_y (by omega) ho]
          rfl
        · unfold f_M_hurt f_M_hurt_14 f_M_hurt_30
          have q8 : m 100 10 = nI ic := hm.ic ▸ h8
          have qo := ho
          rw [hm.inc (i := i) (j := 0) (by omega) (by omega)] at qo
          rw [m_inc_y q8 b2 hi, bd_t, nt_t, br_n i10, m_in_y hw, bd_t, nt_t, br_n i10, m_cl_y q8 b2 hi qo, bd_t, nt_t, m_t3]
          rfl
      · have hI := (hK.2.2.1 i i12).2.1
        have hw1 : 0 ≤ w.toInt ∧ w.toInt ≤ 10000 := hw
        have hK1 : KK (u2 c (36 + i) 2 w) tc ic uc sc s := hK.inc i12 (by omega) ⟨by omega, fun _ => hw1, by omega⟩
        have h41 : u2 c (36 + i) 2 w 0 4 = nI tc := by rw [u2_o (by omega)]; exact h4
        have e20 : u2 c (36 + i) 2 w 0 2 = c 0 2 := u2_o (by omega)
        have hnw1 := hK1.1.2.2.1
        refine op_run hK1 i12 ((List.range' 0 tc).filter (pr (u2 c (36 + i) 2 w) 1 (c (36 + i) 2 + 1) w)) rng_lt (fun a b ha hb => u2_o (by omega)) ?_ (fun m hm hl hn => ?_)
        · unfold f_L_hurt f_S_hurt f_S_happened
          have e1 := s_happ i12 b1 h41 1 (c (36 + i) 2 + 1) w tc 0 FU (u2 c (36 + i) 2 w) (nI 0) (by omega) (by unfold FU; omega) (fun _ _ _ => rfl)
          rw [s_inc_y h8 b2 hi, bd_t, tr_t, s_out_y hw, bd_t, tr_t, s_cl_n (by omega) ho, bd_t, tr_t, ju]
          show bd (bd (f_S_happened_6 FU (36 + i) 1 (c (36 + i) 2 + 1) w 0 0 (u2 c (36 + i) 2 w)) _) _ = _
          rw [show f_S_happened_6 FU (36 + i) 1 (c (36 + i) 2 + 1) w 0 0 (u2 c (36 + i) 2 w) = _ from e1]
          rfl
        · have q8 : m 100 10 = nI ic := hm.ic ▸ h8
          have qo := ho
          rw [hm.inc (i := i) (j := 0) (by omega) (by omega)] at qo
          have q2 : u2 m 100 0 0 109 i = c (36 + i) 2 := by rw [u2_o (by omega)]; exact (hm.inc (j := 2) i12 (by omega)).symm
          have e1 : u2 (u2 m 100 0 0) 109 i w 100 1 = u2 c (36 + i) 2 w 0 2 := by rw [u2_o (by omega), u2_o (by omega), u2_o (by omega)]; exact hn.symm
          obtain ⟨m', a1, a2, a3, a4⟩ := m_hrt (c0 := u2 c (36 + i) 2 w) i12 hnw1.1 (Int.le_refl _) hnw1.2 w (c (36 + i) 2) tc 0 FU (u2 c (36 + i) 2 w) (u2 (u2 m 100 0 0) 109 i w) 0 (by omega) (by unfold FU; omega) (fun _ _ _ => rfl) ((hm.thr 0).upd (PP_inc (j := 2) i12 (by omega)) _) (by rw [e20]; exact hl.cong (fun k j hk hk2 => u2_o (by omega)) (fun j => by rw [u2_o (by omega), u2_o (by omega)])) hK1 e1
          rw [← show pr (u2 c (36 + i) 2 w) 1 (c (36 + i) 2 + 1) w = ph (u2 c (36 + i) 2 w) w (c (36 + i) 2) from funext (pr_ph hI.1 hI.2)] at a1 a2 a3
          refine ⟨_, m', ?_, a2, a3, a4, by rw [u2_o (by omega), u2_s], e1, fun a b hab => by rw [u2_o (by omega), u2_o (by omega)]⟩
          unfold f_M_hurt f_M_hurt_14 f_M_hurt_30
          rw [m_inc_y q8 b2 hi, bd_t, nt_t, br_n i10, m_in_y hw, bd_t, nt_t, br_n i10, m_cl_n q8 b2 hi qo, bd_t, nt_t, m_t0, bd_t, nt_t, br_y i00, jg, gd_t, gd_t, jn, ln_t]
          dsimp only
          rw [q2]
          exact a1
    · refine op_err hK (k := 2) (by decide) ?_ (fun m hm hn => ⟨0, 0, ?_⟩)
      · unfold f_L_hurt f_S_hurt
        rw [s_inc_y h8 b2 hi, bd_t, tr_t, s_out_n hw]
        rfl
      · unfold f_M_hurt f_M_hurt_14 f_M_hurt_30
        have q8 : m 100 10 = nI ic := hm.ic ▸ h8
        rw [m_inc_y q8 b2 hi, bd_t, nt_t, br_n i10, m_in_n hw, bd_t, nt_t, br_y i00]
        by_cases ho : c (36 + i) 0 = 0
        · have qo := ho
          rw [hm.inc (i := i) (j := 0) (by omega) (by omega)] at qo
          rw [m_cl_y q8 b2 hi qo, bd_t, nt_t, m_t2]
          rfl
        · have qo := ho
          rw [hm.inc (i := i) (j := 0) (by omega) (by omega)] at qo
          rw [m_cl_n q8 b2 hi qo, bd_t, nt_t, m_t2]
          rfl