/-! TICK: second by second; the op -/
theorem FL_0 {c0 : go_V} {W : List Nat} {a : Int} : ∀ (l : List Nat) (σ : go_V × Int32), FL c0 W a a l σ = σ := by
  intro l
  induction l with
  | nil => exact fun σ => FL_nil
  | cons i l ih =>
    intro σ
    have e : W.filter (inW c0 i a a) = [] := by
      rw [List.filter_eq_nil_iff]
      intro t _
      unfold inW
      by_cases h : a < (du c0 i t).toInt
      · rw [decide_eq_false (show ¬ (du c0 i t).toInt ≤ a by omega), Bool.and_false]
        exact Bool.false_ne_true
      · rw [decide_eq_false h, Bool.false_and]
        exact Bool.false_ne_true
    rw [FL_cons, ih]
    unfold F
    rw [e, R_nil]
    split <;> rfl
theorem m_t42 {c0 : go_V} {tc ic uc sc T : Nat} {s : Nat → Nat} {nw : Int32} (h : KK c0 tc ic uc sc s) (hnw : nw.toInt = (c0 0 2).toInt + T) (h2 : nw.toInt ≤ 999999) (hT : T ≤ 5000) : ∀ (d k n : Nat) (m : go_V) (σ : go_V × Int32), σ = FL c0 ((List.range' 0 sc).map s) (c0 0 2).toInt ((c0 0 2).toInt + k) (List.range' 0 ic) (c0, 0) → k + d = T → d < n → RR uc σ.1 m → LL σ.1 m nw → (m 100 1).toInt = (c0 0 2).toInt + k →
    ∃ m', f_M_tick_42 n (nI T) σ.2 (nI k) m = some (0, (FL c0 ((List.range' 0 sc).map s) (c0 0 2).toInt ((c0 0 2).toInt + T) (List.range' 0 ic) (c0, 0)).2, 0, m') ∧ RR uc (FL c0 ((List.range' 0 sc).map s) (c0 0 2).toInt ((c0 0 2).toInt + T) (List.range' 0 ic) (c0, 0)).1 m' ∧ LL (FL c0 ((List.range' 0 sc).map s) (c0 0 2).toInt ((c0 0 2).toInt + T) (List.range' 0 ic) (c0, 0)).1 m' nw ∧ (m' 100 1).toInt = (c0 0 2).toInt + T ∧ (∀ p q, p < 100 ∨ 118 < p ∨ (p = 100 ∧ q = 0) → m' p q = m p q) := by
  have b2 := h.1.2.1.2.1
  have b1 := h.1.2.1.1
  have hn0 := h.1.2.2.1
  have hW : ∀ t, t ∈ (List.range' 0 sc).map s → t < 20 := fun t ht => by have := ((W_mem h.2.2.2.2.1 t).mp ht).1; omega
  have hW2 : ∀ t, t ∈ (List.range' 0 sc).map s → t < tc := fun t ht => ((W_mem h.2.2.2.2.1 t).mp ht).1
  have hl12 : ∀ i, i ∈ List.range' 0 ic → i < 12 := fun i hi => by rw [List.mem_range'_1] at hi; omega
  intro d
  induction d with
  | zero =>
    intro k n m σ hσ he hn hR hL hm
    have e : k = T := by omega
    subst e
    cases n with
    | zero => omega
    | succ n =>
      unfold f_M_tick_42
      rw [br_y (nI_le (by omega) (by omega)), ← hσ]
      exact ⟨m, rfl, hR, hL, hm, fun _ _ _ => rfl⟩
  | succ d ih =>
    intro k n m σ hσ he hn hR hL hm
    cases n with
    | zero => omega
    | succ n =>
      have c1 : (1 : Int32).toInt = 1 := rfl
      have es : (m 100 1 + 1).toInt = (c0 0 2).toInt + k + 1 := by rw [i_add (by omega) (by omega)]; omega
      have hCF : CF c0 σ.1 := by rw [hσ]; exact FL_CF hW _ _ hl12 (fun _ _ _ => rfl)
      have hKK : KK σ.1 tc ic uc sc s := by rw [hσ]; exact FL_KK hW2 _ _ hl12 h
      obtain ⟨m1, p1, p2, p3, p4⟩ := m_t60 (sec := m 100 1 + 1) (nw := nw) h (by omega) (by omega) h2 (f_M_tick_42 n) (nI T) (nI k) ic 0 FU σ.1 (u2 m 100 1 (m 100 1 + 1)) σ.2 (by omega) (by unfold FU; omega) hCF (hR.updm _ (fun a b hp => by unfold PP at hp; omega)) (hL.cong (fun _ _ _ _ => rfl) (fun j => u2_o (by omega))) hKK u2_s
      have e3 : FL c0 ((List.range' 0 sc).map s) ((m 100 1 + 1).toInt - 1) (m 100 1 + 1).toInt (List.range' 0 ic) (σ.1, σ.2) = FL c0 ((List.range' 0 sc).map s) (c0 0 2).toInt ((c0 0 2).toInt + ((k + 1 : Nat) : Int)) (List.range' 0 ic) (c0, 0) := by
        rw [FL_split (a := (c0 0 2).toInt) (b := (c0 0 2).toInt + k) (e := (c0 0 2).toInt + ((k + 1 : Nat) : Int)) (by omega) (by omega) hW (fun i hi => W_du h hi) ic 0 (c0, 0) (by omega), ← hσ, es, show (c0 0 2).toInt + (k : Int) + 1 - 1 = (c0 0 2).toInt + k by omega, show (c0 0 2).toInt + (k : Int) + 1 = (c0 0 2).toInt + ((k + 1 : Nat) : Int) by omega]
      rw [e3] at p1 p2 p3
      obtain ⟨m', q1, q2, q3, q4, q5⟩ := ih (k + 1) n m1 _ rfl (by omega) (by omega) p2 p3 (by rw [p4 100 1 (by omega), u2_s, es]; omega)
      refine ⟨m', ?_, q2, q3, q4, fun a b hab => (q5 a b hab).trans ((p4 a b (by omega)).trans (u2_o (by omega)))⟩
      unfold f_M_tick_42
      rw [br_n (nI_ge (by omega) (by omega)), ln_t]
      refine Eq.trans p1 ?_
      rw [← nI_succ]
      exact q1
theorem LL.mono {c m : go_V} {nw nw' : Int32} (h : LL c m nw) (hn : nw.toInt ≤ nw'.toInt) : LL c m nw' := by
  intro i t hi ht
  rcases h i t hi ht with e | ⟨e1, e2, e3⟩
  · exact Or.inl e
  · exact Or.inr ⟨e1, e2, by omega⟩
theorem o_tick (x : Int32) : OpS true (f_L_tick x) (f_M_tick x) := by
  intro c tc ic uc sc s hK
  have hnw := hK.1.2.2.1
  have b2 := hK.1.2.1.2.1
  have b1 := hK.1.2.1.1
  have c0 : (0 : Int32).toInt = 0 := rfl
  have c1 : (1 : Int32).toInt = 1 := rfl
  have c5 : (5000 : Int32).toInt = 5000 := rfl
  have c9 : (999999 : Int32).toInt = 999999 := rfl
  by_cases hx : btw x 1 5000
  · have hx2 : 1 ≤ x.toInt ∧ x.toInt ≤ 5000 := by unfold btw at hx; omega
    have es : (c 0 2 + x).toInt = (c 0 2).toInt + x.toInt := i_add (by omega) (by omega)
    obtain ⟨T, hT, rfl⟩ := vp_in_of (vp_in_iff.mpr (show 0 ≤ x.toInt ∧ x.toInt < (5001 : Nat) by omega)) (by decide)
    have eT := nI_toInt (show T < 2 ^ 31 by omega)
    by_cases hb : btw (c 0 2 + nI T) 0 999999
    · have hb2 : (c 0 2 + nI T).toInt ≤ 999999 := by unfold btw at hb; omega
      have hW : ∀ t, t ∈ (List.range' 0 sc).map s → t < 20 := fun t ht => by have := ((W_mem hK.2.2.2.2.1 t).mp ht).1; omega
      have hW2 : ∀ t, t ∈ (List.range' 0 sc).map s → t < tc := fun t ht => ((W_mem hK.2.2.2.2.1 t).mp ht).1
      have hl12 : ∀ i, i ∈ List.range' 0 ic → i < 12 := fun i hi => by rw [List.mem_range'_1] at hi; omega
      have hCF : CF c (FL c ((List.range' 0 sc).map s) (c 0 2).toInt ((c 0 2).toInt + T) (List.range' 0 ic) (c, 0)).1 := FL_CF hW _ _ hl12 (fun _ _ _ => rfl)
      have hKK : KK (FL c ((List.range' 0 sc).map s) (c 0 2).toInt ((c 0 2).toInt + T) (List.range' 0 ic) (c, 0)).1 tc ic uc sc s := FL_KK hW2 _ _ hl12 hK
      have e0 := s_tick hK (nI T) (c 0 2 + nI T) ic 0 FU c 0 (by omega) (by unfold FU; omega) (fun _ _ _ => rfl)
      have hM := fun m (hm : RR uc c m) (hl : LL c m (c 0 2)) (hn : c 0 2 = m 100 1) => m_t42 (T := T) (nw := c 0 2 + nI T) hK (by omega) hb2 (by omega) T 0 FU (u2 m 100 0 0) (c, 0) (by rw [show (c 0 2).toInt + ((0 : Nat) : Int) = (c 0 2).toInt by omega, FL_0]) (by omega) (by unfold FU; omega) (hm.thr 0) (hl.thr.mono (by omega)) (by rw [u2_o (by omega), ← hn]; omega)
      rw [es, eT] at e0
      generalize FL c ((List.range' 0 sc).map s) (c 0 2).toInt ((c 0 2).toInt + T) (List.range' 0 ic) (c, 0) = σ at hCF hKK e0 hM
      refine ⟨0, u2 (u2 σ.1 0 2 (c 0 2 + nI T)) 119 0 σ.2, ?_, fun a b ha hb => ?_, fun m hm hl hn => ?_⟩
      · unfold f_L_tick f_S_tick
        rw [s_out_y hx, bd_t, tr_t, s_out_y (show btw ((0, (0 : Int32), 0, c).2.2.2 0 2 + nI T) 0 999999 from hb), bd_t, tr_t]
        dsimp only
        rw [show f_S_tick_32 FU (nI T) (c 0 2 + nI T) 0 0 c = _ from e0]
        rfl
      · rw [u2_o (by omega), u2_o (by omega), hCF a b (by omega)]
      · obtain ⟨m', q1, q2, q3, q4, q5⟩ := hM m hm hl hn
        refine ⟨σ.2, 0, m', ?_, fun a b hab => (q5 a b (by omega)).trans (u2_o (by omega)), (q5 100 0 (by omega)).trans u2_s, fun _ _ => u2_s, tc, ic, uc, sc, s, ?_, ?_, ?_, ?_⟩
        · unfold f_M_tick f_M_tick_28
          have g1 : m 100 1 + nI T ≤ 999999 := by rw [← hn, Int32.le_iff_toInt_le]; omega
          rw [m_in_y hx, bd_t, nt_t, br_n i10, br_y g1, m_t0, bd_t, nt_t, br_y i00]
          exact q1
        · exact (q2.updc (k := 0) (j := 2) (c 0 2 + nI T) (fun a b hp => by unfold PP at hp; omega)).cong (fun a b ha => u2_o (by omega)) (fun _ _ _ _ _ => rfl)
        · rw [u2_o (by omega), u2_s]
          exact q3.cong (fun k j hk hk2 => by rw [u2_o (by omega), u2_o (by omega)]) (fun _ => rfl)
        · rw [u2_o (by omega), u2_s]
          exact Int32.toInt_inj.mp (by omega)
        · refine KK.cong (c := u2 σ.1 0 2 (c 0 2 + nI T)) ?_ (fun a b hab => u2_o (by unfold NK at hab; omega))
          have e2 : σ.1 0 2 = c 0 2 := hCF 0 2 (by omega)
          refine hKK.cv (fun k j hk => u2_o (by omega)) ?_ ?_ (Nat.le_refl _)
          · have h9 := hKK.1
            unfold Cv at h9 ⊢
            rw [u2_s, u2_o (by omega), u2_o (by omega), u2_o (by omega), u2_o (by omega), u2_o (by omega)]
            exact ⟨h9.1, h9.2.1, ⟨by omega, by omega⟩, h9.2.2.2⟩
          · rw [u2_s, e2]; omega
    · refine op_err hK (k := 1) (by decide) ?_ (fun m hm hn => ⟨0, 0, ?_⟩)
      · unfold f_L_tick f_S_tick
        rw [s_out_y hx, bd_t, tr_t, s_out_n (show ¬ btw ((0, (0 : Int32), 0, c).2.2.2 0 2 + nI T) 0 999999 from hb)]
        rfl
      · unfold f_M_tick f_M_tick_23 f_M_tick_28
        have g1 : ¬ m 100 1 + nI T ≤ 999999 := by
          rw [← hn, Int32.le_iff_toInt_le]
          intro h3
          exact hb (by unfold btw; omega)
        rw [m_in_y hx, bd_t, nt_t, br_n i10, br_n g1, m_t1, bd_t, nt_t, br_n i10]
  · refine op_err hK (k := 1) (by decide) ?_ (fun m hm hn => ⟨0, 0, ?_⟩)
    · unfold f_L_tick f_S_tick
      rw [s_out_n hx]
      rfl
    · unfold f_M_tick f_M_tick_23 f_M_tick_28
      rw [m_in_n hx, bd_t, nt_t, br_y i00, m_t1, bd_t, nt_t, br_n i10]
