/-! CALM: how many go back; the op -/
theorem cn_u3 {c : go_V} {x1 x2 : Int32} {f w : Nat} (h : ¬ w = f) : cn (u3 c f 0 (-1) (-1)) x1 x2 w = cn c x1 x2 w := by
  unfold cn
  rw [u3_o (by omega), u3_o (by omega)]
theorem cn_u3f {c : go_V} {x1 x2 : Int32} {f : Nat} (hx : ¬ x1 = -1) : cn (u3 c f 0 (-1) (-1)) x1 x2 f = false := by
  unfold cn
  rw [u3_2, decide_eq_false (fun h => hx h.symm), Bool.false_and]
theorem cnt_same {c : go_V} {x1 x2 : Int32} {f : Nat} : ∀ (d u : Nat), f < u ∨ u + d ≤ f → (List.range' u d).countP (cn (u3 c f 0 (-1) (-1)) x1 x2) = (List.range' u d).countP (cn c x1 x2) := by
  intro d
  induction d with
  | zero => exact fun u h => rfl
  | succ d ih =>
    intro u h
    rw [show List.range' u (d + 1) = u :: List.range' (u + 1) d from rfl, List.countP_cons, List.countP_cons, ih (u + 1) (by omega), cn_u3 (by omega)]
theorem cnt_dec {c : go_V} {x1 x2 : Int32} {f : Nat} (hx : ¬ x1 = -1) (hf : cn c x1 x2 f = true) : ∀ (d u : Nat), u ≤ f → f < u + d → (List.range' u d).countP (cn (u3 c f 0 (-1) (-1)) x1 x2) + 1 = (List.range' u d).countP (cn c x1 x2) := by
  intro d
  induction d with
  | zero => exact fun u h1 h2 => by omega
  | succ d ih =>
    intro u h1 h2
    rw [show List.range' u (d + 1) = u :: List.range' (u + 1) d from rfl, List.countP_cons, List.countP_cons]
    by_cases e : u = f
    · subst e
      rw [cnt_same d (u + 1) (by omega), cn_u3f hx, hf, if_neg Bool.false_ne_true, if_pos rfl]
    · rw [cn_u3 e, ← ih (u + 1) (by omega) (by omega)]
      omega
def rN (x1 x2 : Int32) (uc : Nat) : Nat → go_V → go_V
  | 0, c => c
  | t + 1, c => rN x1 x2 uc t (fre c (pk c x1 x2 (List.range' 0 uc) none))
theorem pkf_lt {c : go_V} {x1 x2 : Int32} {uc f : Nat} (h : pk c x1 x2 (List.range' 0 uc) none = some f) : f < uc ∧ cn c x1 x2 f = true := by
  refine pk_some (P := fun f => f < uc ∧ cn c x1 x2 f = true) _ _ (fun f hf => by cases hf) (fun u hu hc => ⟨?_, hc⟩) f h
  rw [List.mem_range'_1] at hu
  omega
theorem fre_o {c : go_V} {x1 x2 : Int32} {uc k j : Nat} (h40 : uc ≤ 40) (hk : k < 60 ∨ 100 ≤ k ∨ j = 0) : fre c (pk c x1 x2 (List.range' 0 uc) none) k j = c k j := by
  cases hp : pk c x1 x2 (List.range' 0 uc) none with
  | none => rfl
  | some f =>
    have h1 := (pkf_lt hp).1
    exact u3_o (by omega)
theorem fre_KK {c : go_V} {x1 x2 : Int32} {tc ic uc sc : Nat} {s : Nat → Nat} (h : KK c tc ic uc sc s) : KK (fre c (pk c x1 x2 (List.range' 0 uc) none)) tc ic uc sc s := by
  cases hp : pk c x1 x2 (List.range' 0 uc) none with
  | none => exact h
  | some f => exact h.unt (pkf_lt hp).1 (fun _ => rfl)
theorem rN_o {x1 x2 : Int32} {uc k j : Nat} (h40 : uc ≤ 40) (hk : k < 60 ∨ 100 ≤ k ∨ j = 0) : ∀ (t : Nat) (c : go_V), rN x1 x2 uc t c k j = c k j := by
  intro t
  induction t with
  | zero => exact fun c => rfl
  | succ t ih => exact fun c => (ih _).trans (fre_o h40 hk)
theorem rN_KK {x1 x2 : Int32} {tc ic uc sc : Nat} {s : Nat → Nat} : ∀ (t : Nat) (c : go_V), KK c tc ic uc sc s → KK (rN x1 x2 uc t c) tc ic uc sc s := by
  intro t
  induction t with
  | zero => exact fun c h => h
  | succ t ih => exact fun c h => ih _ (fre_KK h)
theorem s_rtm {uc T : Nat} (h40 : uc ≤ 40) (hT : T ≤ 40) (x1 x2 x3 : Int32) : ∀ (d j n : Nat) (c : go_V), j + d = T → d < n → c 0 10 = nI uc → f_S_recallTooMuch_17 n x1 x2 x3 (nI T) (nI j) c = some (0, nI T, 0, rN x1 x2 uc d c) := by
  intro d
  induction d with
  | zero =>
    intro j n c he hn h10
    cases n with
    | zero => omega
    | succ n =>
      unfold f_S_recallTooMuch_17
      rw [br_y (nI_le (by omega) (by omega))]
      rfl
  | succ d ih =>
    intro j n c he hn h10
    cases n with
    | zero => omega
    | succ n =>
      have e0 : f_S_recallOne x1 x2 c = _ := s_rone h40 h10 x1 x2 uc 0 FU none (by omega) (by unfold FU; omega) (fun f hf => by cases hf)
      unfold f_S_recallTooMuch_17
      rw [br_n (nI_ge (by omega) (by omega)), e0, bd_t, nt_t, ← nI_succ]
      exact ih (j + 1) n _ (by omega) (by omega) ((fre_o h40 (by omega)).trans h10)
theorem nI_subm {a b : Nat} (ha : a ≤ 1000) (hb : b ≤ 1000) : (if (nI a - nI b) < (0 : Int32) then (0 : Int32) else (nI a - nI b)) = nI (a - b) := by
  have e : (nI a - nI b).toInt = a - b := by rw [i_sub, nI_toInt (by omega), nI_toInt (by omega)] <;> rw [nI_toInt (by omega), nI_toInt (by omega)] <;> omega
  have c0 : (0 : Int32).toInt = 0 := rfl
  by_cases h : a < b
  · rw [if_pos (by rw [Int32.lt_iff_toInt_lt]; omega), show a - b = 0 by omega]
    rfl
  · rw [if_neg (by rw [Int32.lt_iff_toInt_lt]; omega)]
    exact Int32.toInt_inj.mp (by rw [e, nI_toInt (by omega)]; omega)
theorem cnt_le {p : Nat → Bool} {n : Nat} : (List.range' 0 n).countP p ≤ n := by
  have h := List.countP_le_length (p := p) (l := List.range' 0 n)
  rw [List.length_range'] at h
  exact h
theorem s_rtm2 {c : go_V} {uc w : Nat} (h40 : uc ≤ 40) (hw : w ≤ 30) (h10 : c 0 10 = nI uc) (x1 x2 : Int32) : f_S_recallTooMuch x1 x2 (nI w) c = some (0, nI ((List.range' 0 uc).countP (cn c x1 x2) - w), 0, rN x1 x2 uc ((List.range' 0 uc).countP (cn c x1 x2) - w) c) := by
  have hc := cnt_le (p := cn c x1 x2) (n := uc)
  have e0 := s_uf h40 h10 x1 x2 uc 0 FU 0 (by omega) (by unfold FU; omega)
  rw [Int32.zero_add] at e0
  have e1 : f_S_unitsFor x1 x2 c = _ := e0
  unfold f_S_recallTooMuch
  rw [e1, bd_t, nt_t]
  dsimp only
  rw [nI_subm (by omega) (by omega)]
  exact s_rtm h40 (by omega) x1 x2 (nI w) _ 0 FU c (by omega) (by unfold FU; omega) h10
theorem m_93 {tc ic uc sc i k a w : Nat} {s : Nat → Nat} (hi : i < 12) (hk : k < 8) (ha : a < 10) (hw : w ≤ 30) (rec86 : Int32 → Int32 → Int32 → Int32 → Int32 → go_V → Option go_R) (x3 : Int32) : ∀ (T n : Nat) (c m : go_V) (acc : Int32), KK c tc ic uc sc s → RR uc c m → (List.range' 0 uc).countP (cn c (nI i) (nI k)) - w = T → T < n → m 101 (8 * a + k) = nI w →
    ∃ m', f_M_calm_93 rec86 n (nI i) (nI a) x3 acc (nI k) m = rec86 (nI i) (nI a) x3 (acc + nI T) (nI (k + 1)) m' ∧ RR uc (rN (nI i) (nI k) uc T c) m' ∧ (∀ a b, a < 116 ∨ 118 < a → m' a b = m a b) := by
  intro T
  induction T with
  | zero =>
    intro n c m acc hK hm hT hn hr
    have h10 : m 100 19 = nI uc := hm.uc ▸ hK.1.1.2.2.1
    have b3 := hK.1.2.1.2.2.1
    cases n with
    | zero => omega
    | succ n =>
      have hc := cnt_le (p := cn c (nI i) (nI k)) (n := uc)
      have e0 := m_ws b3 h10 hm hK.2.2.2.1 hi (nI k) uc 0 FU 0 (by omega) (by unfold FU; omega)
      rw [Int32.zero_add] at e0
      have e1 : f_M_withSkill (nI i) (nI k) m = _ := e0
      have g1 : nI ((List.range' 0 uc).countP (cn c (nI i) (nI k))) ≤ m 101 (8 * a + k) := by rw [hr]; exact nI_le (by omega) (by omega)
      unfold f_M_calm_93
      rw [e1, bd_t, nt_t, nI_8, go_in_nI (show 8 * a + k < 80 by omega) (by decide), gd_t, nI_clamp (show 8 * a + k < 2 ^ 31 by omega), br_y g1, show nI 0 = 0 from rfl, Int32.add_zero, ← nI_succ]
      exact ⟨m, rfl, hm, fun _ _ _ => rfl⟩
  | succ T ih =>
    intro n c m acc hK hm hT hn hr
    have h10 : m 100 19 = nI uc := hm.uc ▸ hK.1.1.2.2.1
    have b3 := hK.1.2.1.2.2.1
    cases n with
    | zero => omega
    | succ n =>
      have hc := cnt_le (p := cn c (nI i) (nI k)) (n := uc)
      have e0 := m_ws b3 h10 hm hK.2.2.2.1 hi (nI k) uc 0 FU 0 (by omega) (by unfold FU; omega)
      rw [Int32.zero_add] at e0
      have e1 : f_M_withSkill (nI i) (nI k) m = _ := e0
      have g1 : ¬ nI ((List.range' 0 uc).countP (cn c (nI i) (nI k))) ≤ m 101 (8 * a + k) := by rw [hr]; exact nI_ge (by omega) (by omega)
      have hne := pk_ne (c := c) (x1 := nI i) (x2 := nI k) (List.range' 0 uc) none (Or.inr (by omega))
      cases hp : pk c (nI i) (nI k) (List.range' 0 uc) none with
      | none => exact absurd hp hne
      | some f =>
        have hf := pkf_lt hp
        have e2 := m_121 (k := k) b3 h10 hm hK.2.2.2.1 hi rec86 (f_M_calm_93 rec86 n) (nI a) x3 acc uc 0 FU none (by omega) (by unfold FU; omega) (fun f hf => by cases hf)
        rw [hp, enc_some, m_free (by omega), bd_t, nt_t] at e2
        have hd := cnt_dec (nI_nm1 (show i < 2 ^ 31 by omega)) hf.2 uc 0 (by omega) (by omega)
        obtain ⟨m', q1, q2, q3⟩ := ih n (u3 c f 0 (-1) (-1)) (m3 m f 0 (-1) (-1)) (acc + 1) (hK.unt hf.1 (fun _ => rfl)) (hm.unt hf.1 (by omega)) (by omega) (by omega) (by rw [m3_o (by omega)]; exact hr)
        refine ⟨m', ?_, ?_, fun a b hab => (q3 a b hab).trans (m3_o (by omega))⟩
        · unfold f_M_calm_93
          rw [e1, bd_t, nt_t, nI_8, go_in_nI (show 8 * a + k < 80 by omega) (by decide), gd_t, nI_clamp (show 8 * a + k < 2 ^ 31 by omega), br_n g1]
          refine Eq.trans e2 (Eq.trans q1 ?_)
          rw [nI_succ T, Int32.add_assoc, Int32.add_comm 1]
        · show RR uc (rN (nI i) (nI k) uc T (fre c (pk c (nI i) (nI k) (List.range' 0 uc) none))) m'
          rw [hp]
          exact q2
theorem calm_loop {tc ic uc sc i a : Nat} {s : Nat → Nat} (hi : i < 12) (ha : a < 10) (k3 : Nat) (x3 : Int32) : ∀ (d k n n2 : Nat) (c : go_V) (acc : Int32), k + d = 8 → d < n → d < n2 → KK c tc ic uc sc s →
    ∃ (x : Int32) (c' : go_V), f_S_calm_53 n (nI i) (nI a) k3 acc (nI k) c = some (0, x, 0, c') ∧ (∀ p q, p < 60 ∨ 100 ≤ p → ¬ (p = 0 ∧ q = 12) → c' p q = c p q) ∧ KK c' tc ic uc sc s ∧
      ∀ m, RR uc c m → ∃ m', f_M_calm_86 n2 (nI i) (nI a) x3 acc (nI k) m = some (0, x, 0, m') ∧ RR uc c' m' ∧ (∀ p q, p < 116 ∨ 118 < p → ¬ (p = 100 ∧ q = 25) → m' p q = m p q) := by
  intro d
  induction d with
  | zero =>
    intro k n n2 c acc he hn hn2 hK
    cases n with
    | zero => omega
    | succ n =>
      cases n2 with
      | zero => omega
      | succ n2 =>
        have e8 : (8 : Int32) ≤ nI k := by rw [show k = 8 by omega]; decide
        refine ⟨acc, u2 c 0 12 (c 0 12 + acc), ?_, fun p q hp hq => u2_o (by omega), hK.cong (fun p q hpq => u2_o (by unfold NK at hpq; omega)), fun m hm => ⟨u2 m 100 25 (m 100 25 + acc), ?_, ?_, fun p q hp hq => u2_o (by omega)⟩⟩
        · unfold f_S_calm_53
          rw [br_y e8, ln_t]
        · unfold f_M_calm_86
          rw [br_y e8, ln_t]
        · rw [← hm 0 12 100 25 (Or.inl ⟨rfl, rfl, by omega⟩)]
          exact hm.upd (Or.inl ⟨rfl, rfl, by omega⟩) _
  | succ d ih =>
    intro k n n2 c acc he hn hn2 hK
    cases n with
    | zero => omega
    | succ n =>
      cases n2 with
      | zero => omega
      | succ n2 =>
        have e8 : ¬ (8 : Int32) ≤ nI k := nI_ge (a := k) (b := 8) (by omega) (by decide)
        have h10 := hK.1.1.2.2.1
        have b3 := hK.1.2.1.2.2.1
        have hr := hK.2.2.2.2.2 a k ha (by omega)
        obtain ⟨w, hw, hw2⟩ := vp_in_of (vp_in_iff.mpr (show 0 ≤ (c (2 + a) k).toInt ∧ (c (2 + a) k).toInt < (31 : Nat) by omega)) (by decide)
        have hcl := cnt_le (p := cn c (nI i) (nI k)) (n := uc)
        obtain ⟨x, c', q1, q2, q3, q4⟩ := ih (k + 1) n n2 (rN (nI i) (nI k) uc ((List.range' 0 uc).countP (cn c (nI i) (nI k)) - w) c) (acc + nI ((List.range' 0 uc).countP (cn c (nI i) (nI k)) - w)) (by omega) (by omega) (by omega) (rN_KK _ _ hK)
        refine ⟨x, c', ?_, fun p q hp hq => (q2 p q hp hq).trans (rN_o b3 (by omega) _ _), q3, fun m hm => ?_⟩
        · unfold f_S_calm_53
          rw [br_n e8, go_in_nI ha (by decide), gd_t, nI_clamp (by omega), ln_t, show go_elt 1 a = 2 + a from rfl, (k_R ha).1, (k_R ha).2, go_in_nI (show k < 8 by omega) (by decide), nI_clamp (show k < 2 ^ 31 by omega), hw2, s_rtm2 b3 (by omega) h10, show Nat.beq 10 10 = true from rfl, gd_t, gd_t, bd_t, nt_t, ← nI_succ]
          exact q1
        · obtain ⟨m1, r1, r2, r3⟩ := m_93 hi (show k < 8 by omega) ha (show w ≤ 30 by omega) (f_M_calm_86 n2) x3 _ FU c m acc hK hm rfl (by unfold FU; omega) ((hm.row ha (by omega)).symm.trans hw2)
          obtain ⟨m', s1, s2, s3⟩ := q4 m1 r2
          refine ⟨m', ?_, s2, fun p q hp hq => (s3 p q hp hq).trans (r3 p q hp)⟩
          unfold f_M_calm_86
          rw [br_n e8, r1]
          exact s1
theorem o_calm (x y : Int32) : OpS true (f_L_calm x y) (f_M_calm x y) := by
  intro c tc ic uc sc s hK
  have h8 := hK.1.1.2.1
  have b2 := hK.1.2.1.2.1
  rcases rg x ic (by omega) with h | ⟨i, hi, rfl⟩
  · refine op_err hK (k := 1) (by decide) ?_ (fun m hm hn => ⟨0, 0, ?_⟩)
    · unfold f_L_calm f_S_calm
      rw [s_inc_n h8 b2 h]
      rfl
    · unfold f_M_calm f_M_calm_18 f_M_calm_23 f_M_calm_53 f_M_calm_54
      have q8 : m 100 10 = nI ic := hm.ic ▸ h8
      rw [m_inc_n q8 b2 h, bd_t, nt_t, br_y i00, br_n i10, m_t1, bd_t, nt_t, br_n i10]
  · have i12 : i < 12 := by omega
    have ju := k_I (show i < 12 by omega)
    have jg := go_in_nI (show i < 12 by omega) (by decide)
    have jn := nI_clamp (show i < 2 ^ 31 by omega)
    by_cases hy : btw y 0 9
    · by_cases ho : c (36 + i) 0 = 0
      · refine op_err hK (k := 2) (by decide) ?_ (fun m hm hn => ⟨0, 0, ?_⟩)
        · unfold f_L_calm f_S_calm
          rw [s_inc_y h8 b2 hi, bd_t, tr_t, s_stp_y hy, bd_t, tr_t, s_cl_y (by omega) ho]
          rfl
        · unfold f_M_calm f_M_calm_18 f_M_calm_23 f_M_calm_49 f_M_calm_53 f_M_calm_54
          have q8 : m 100 10 = nI ic := hm.ic ▸ h8
          have qo := ho
          rw [hm.inc (i := i) (j := 0) (by omega) (by omega)] at qo
          rw [m_inc_y q8 b2 hi, bd_t, nt_t, br_n i10, m_in_y hy, bd_t, nt_t, br_n i10, br_y i00, jg, gd_t, jn, br_y qo, m_t2, bd_t, nt_t, br_n i10]
      · by_cases hs : y < c (36 + i) 1
        · obtain ⟨a, ha, rfl⟩ := b_rg (n := 10) rfl (by decide) hy
          have hK1 : KK (u2 (u2 c (36 + i) 1 (nI a)) (36 + i) 6 (c (36 + i) 6 + 1)) tc ic uc sc s := (hK.inc (i := i) (j := 1) (x := nI a) i12 (by omega) ⟨fun _ => by have := nI_toInt (show a < 2 ^ 31 by omega); omega, by omega, by omega⟩).cong (fun p q hpq => u2_o (by unfold NK at hpq; omega))
          obtain ⟨r, c', q1, q2, q3, q4⟩ := calm_loop i12 ha (36 + i) 0 8 0 FU FU (u2 (u2 c (36 + i) 1 (nI a)) (36 + i) 6 (c (36 + i) 6 + 1)) 0 (by omega) (by unfold FU; omega) (by unfold FU; omega) hK1
          refine ⟨0, u2 c' 119 0 r, ?_, fun p q hp hq => ?_, fun m hm hl hn => ?_⟩
          · unfold f_L_calm f_S_calm
            rw [s_inc_y h8 b2 hi, bd_t, tr_t, s_stp_y hy, bd_t, tr_t, s_cl_n (by omega) ho, bd_t, tr_t, ju, show Nat.beq 0 0 = true from rfl, gd_t, br_y hs, ln_t, ln_t]
            dsimp only
            rw [u2_o (show ¬ (36 + i = 36 + i ∧ 6 = 1) by omega), show f_S_calm_53 FU (nI i) (nI a) (36 + i) 0 0 (u2 (u2 c (36 + i) 1 (nI a)) (36 + i) 6 (c (36 + i) 6 + 1)) = _ from q1]
            rfl
          · rw [u2_o (by omega), q2 p q (by omega) (by omega), u2_o (by omega), u2_o (by omega)]
          · have p8 : m 100 10 = nI ic := hm.ic ▸ h8
            have qo := ho
            rw [hm.inc (i := i) (j := 0) (by omega) (by omega)] at qo
            have qs := hs
            rw [hm.inc (i := i) (j := 1) (by omega) (by omega)] at qs
            have q6 : m 113 i = c (36 + i) 6 := (hm.inc (j := 6) i12 (by omega)).symm
            obtain ⟨m', r1, r2, r3⟩ := q4 (u2 (u2 (u2 m 100 0 0) 108 i (nI a)) 113 i (c (36 + i) 6 + 1)) (((hm.thr 0).upd (PP_inc (j := 1) i12 (by omega)) _).upd (PP_inc (j := 6) i12 (by omega)) _)
            refine ⟨r, 0, m', ?_, fun p q hpq => ?_, ?_, fun _ _ => u2_s, tc, ic, uc, sc, s, ?_, ?_, ?_, ?_⟩
            · unfold f_M_calm f_M_calm_23 f_M_calm_53 f_M_calm_54
              rw [m_inc_y p8 b2 hi, bd_t, nt_t, br_n i10, m_in_y hy, bd_t, nt_t, br_n i10, br_y i00, jg, gd_t, jn, br_n qo, gd_t, br_y qs, m_t0, bd_t, nt_t, br_y i00, gd_t, ln_t, gd_t, gd_t, ln_t]
              dsimp only
              rw [u2_o (show ¬ (113 = 108 ∧ i = i) by omega), u2_o (show ¬ (113 = 100 ∧ i = 0) by omega), q6]
              exact r1
            · rw [r3 p q (by omega) (by omega), u2_o (by omega), u2_o (by omega), u2_o (by omega)]
            · rw [r3 _ _ (by omega) (by omega), u2_o (by omega), u2_o (by omega), u2_s]
            · exact r2.cong (fun p q hp => u2_o (by omega)) (fun _ _ _ _ _ => rfl)
            · rw [u2_o (by omega), q2 0 2 (by omega) (by omega), u2_o (by omega), u2_o (by omega)]
              exact hl.cong (fun p q hp hq => by rw [u2_o (by omega), q2 _ _ (by omega) (by omega), u2_o (by omega), u2_o (by omega)]) (fun j => by rw [r3 _ _ (by omega) (by omega), u2_o (by omega), u2_o (by omega), u2_o (by omega)])
            · rw [u2_o (by omega), q2 0 2 (by omega) (by omega), u2_o (by omega), u2_o (by omega), r3 _ _ (by omega) (by omega), u2_o (by omega), u2_o (by omega), u2_o (by omega)]
              exact hn
            · exact q3.cong (fun p q hpq => u2_o (by unfold NK at hpq; omega))
        · refine op_err hK (k := 2) (by decide) ?_ (fun m hm hn => ⟨0, 0, ?_⟩)
          · unfold f_L_calm f_S_calm
            rw [s_inc_y h8 b2 hi, bd_t, tr_t, s_stp_y hy, bd_t, tr_t, s_cl_n (by omega) ho, bd_t, tr_t, ju, br_n hs]
            rfl
          · unfold f_M_calm f_M_calm_18 f_M_calm_23 f_M_calm_49 f_M_calm_53 f_M_calm_54
            have q8 : m 100 10 = nI ic := hm.ic ▸ h8
            have qo := ho
            rw [hm.inc (i := i) (j := 0) (by omega) (by omega)] at qo
            have qs := hs
            rw [hm.inc (i := i) (j := 1) (by omega) (by omega)] at qs
            rw [m_inc_y q8 b2 hi, bd_t, nt_t, br_n i10, m_in_y hy, bd_t, nt_t, br_n i10, br_y i00, jg, gd_t, jn, br_n qo, gd_t, br_n qs, m_t2, bd_t, nt_t, br_n i10]
    · refine op_err hK (k := 1) (by decide) ?_ (fun m hm hn => ⟨0, 0, ?_⟩)
      · unfold f_L_calm f_S_calm
        rw [s_inc_y h8 b2 hi, bd_t, tr_t, s_stp_n hy]
        rfl
      · unfold f_M_calm f_M_calm_18 f_M_calm_23 f_M_calm_53 f_M_calm_54
        have q8 : m 100 10 = nI ic := hm.ic ▸ h8
        rw [m_inc_y q8 b2 hi, bd_t, nt_t, br_n i10, m_in_n hy, bd_t, nt_t, br_y i00, br_n i10, m_t1, bd_t, nt_t, br_n i10]
