/-! TICK: the loops, the op -/
theorem s_silent {c0 : go_V} {tc ic uc sc i : Nat} {s : Nat → Nat} (h : KK c0 tc ic uc sc s) (hi : i < 12) (e : Int32) : ∀ (d j n : Nat) (c : go_V) (acc : Int32), j + d = sc → d < n → CF c0 c →
    f_S_stayedSilent_5 n (36 + i) e acc (nI j) c = some (0, (R i (du c0 i) (((List.range' j d).map s).filter (inW c0 i (c0 0 2).toInt e.toInt)) (c, acc)).2, 0, (R i (du c0 i) (((List.range' j d).map s).filter (inW c0 i (c0 0 2).toInt e.toInt)) (c, acc)).1) := by
  have h6 := h.1.1.2.2.2
  have b1 := h.1.2.1.1
  have b4 := h.1.2.1.2.2.2
  intro d
  induction d with
  | zero =>
    intro j n c acc he hn hc
    cases n with
    | zero => omega
    | succ n =>
      unfold f_S_stayedSilent_5
      rw [hc 0 6 (by omega), h6, br_y (nI_le (by omega) (by omega)), show ((List.range' j 0).map s).filter (inW c0 i (c0 0 2).toInt e.toInt) = [] from rfl, R_nil]
  | succ d ih =>
    intro j n c acc he hn hc
    cases n with
    | zero => omega
    | succ n =>
      have hs := h.2.2.2.2.1.1 j (by omega)
      have g0 : ¬ c 0 6 ≤ nI j := by rw [hc 0 6 (by omega), h6]; exact nI_ge (by omega) (by omega)
      have g1 : c 13 j = nI (s j) := (hc 13 j (by omega)).trans hs.1
      have g2 : c (36 + i) 3 = c0 (36 + i) 3 := hc _ _ (by omega)
      have g3 : c (16 + s j) 1 = c0 (16 + s j) 1 := hc _ _ (by omega)
      have g4 : c 0 2 = c0 0 2 := hc _ _ (by omega)
      unfold f_S_stayedSilent_5 f_S_stayedSilent_71
      rw [br_n g0, k_I hi, go_in_nI (show j < 20 by omega) (by decide), nI_clamp (show j < 2 ^ 31 by omega), g1, go_in_nI (show s j < 20 by omega) (by decide), nI_clamp (show s j < 2 ^ 31 by omega), show Nat.beq 0 0 = true from rfl, gd_t, gd_t, gd_t, ln_t, show go_elt 12 (s j) = 16 + s j from rfl, k_T (by omega), show Nat.beq 1 1 = true from rfl, gd_t, g2, g3, g4, ← nI_succ, show c0 (36 + i) 3 + c0 (16 + s j) 1 = du c0 i (s j) from rfl]
      rw [show List.range' j (d + 1) = j :: List.range' (j + 1) d from rfl, List.map_cons, List.filter_cons]
      by_cases e1 : du c0 i (s j) ≤ c0 0 2
      · rw [br_y e1, if_neg]
        · exact ih (j + 1) n c acc (by omega) (by omega) hc
        · rw [Int32.le_iff_toInt_le] at e1
          unfold inW
          rw [decide_eq_false (by omega), Bool.false_and]
          exact Bool.false_ne_true
      · rw [br_n e1]
        by_cases e2 : e < du c0 i (s j)
        · rw [br_y e2, if_neg]
          · exact ih (j + 1) n c acc (by omega) (by omega) hc
          · rw [Int32.lt_iff_toInt_lt] at e2
            unfold inW
            rw [decide_eq_false (show ¬ (du c0 i (s j)).toInt ≤ e.toInt by omega), Bool.and_false]
            exact Bool.false_ne_true
        · rw [br_n e2, gd_t, if_pos]
          · rw [s_act hi (show s j < 20 by omega), bd_t, R_cons]
            unfold A
            by_cases ha : aok c i (s j) (du c0 i (s j)) = true
            · rw [if_pos ha, nt_t, br_n i10, if_pos ha]
              exact ih (j + 1) n _ _ (by omega) (by omega) (fun p q hpq => (aC_o (by omega)).trans (hc p q hpq))
            · rw [if_neg ha, nt_t, br_y i00, if_neg ha]
              exact ih (j + 1) n _ _ (by omega) (by omega) hc
          · rw [Int32.le_iff_toInt_le] at e1
            rw [Int32.lt_iff_toInt_lt] at e2
            unfold inW
            rw [decide_eq_true (by omega), decide_eq_true (by omega)]
            rfl
theorem s_tick {c0 : go_V} {tc ic uc sc : Nat} {s : Nat → Nat} (h : KK c0 tc ic uc sc s) (x1 e : Int32) : ∀ (d i n : Nat) (c : go_V) (acc : Int32), i + d = ic → d < n → CF c0 c →
    f_S_tick_32 n x1 e acc (nI i) c = some (0, (FL c0 ((List.range' 0 sc).map s) (c0 0 2).toInt e.toInt (List.range' i d) (c, acc)).2, 0, u2 (FL c0 ((List.range' 0 sc).map s) (c0 0 2).toInt e.toInt (List.range' i d) (c, acc)).1 0 2 e) := by
  have h8 := h.1.1.2.1
  have b2 := h.1.2.1.2.1
  have b1 := h.1.2.1.1
  have b4 := h.1.2.1.2.2.2
  have hW : ∀ t, t ∈ (List.range' 0 sc).map s → t < 20 := fun t ht => by have := ((W_mem h.2.2.2.2.1 t).mp ht).1; omega
  intro d
  induction d with
  | zero =>
    intro i n c acc he hn hc
    cases n with
    | zero => omega
    | succ n =>
      unfold f_S_tick_32
      rw [hc 0 8 (by omega), h8, br_y (nI_le (by omega) (by omega)), ln_t, show List.range' i 0 = [] from rfl, FL_nil]
  | succ d ih =>
    intro i n c acc he hn hc
    cases n with
    | zero => omega
    | succ n =>
      have i12 : i < 12 := by omega
      have g0 : ¬ c 0 8 ≤ nI i := by rw [hc 0 8 (by omega), h8]; exact nI_ge (by omega) (by omega)
      have g1 : c (36 + i) 0 = c0 (36 + i) 0 := hc _ _ (by omega)
      unfold f_S_tick_32 f_S_tick_69
      rw [br_n g0, go_in_nI i12 (by decide), gd_t, nI_clamp (by omega), gd_t, ← nI_succ]
      rw [ln_t, ln_t, show go_elt 14 i = 36 + i from rfl, k_I i12, show Nat.beq 0 0 = true from rfl, gd_t]
      rw [show List.range' i (d + 1) = i :: List.range' (i + 1) d from rfl, FL_cons]
      have hF := F_CF (a := (c0 0 2).toInt) (b := e.toInt) (σ := (c, acc)) i12 hW hc
      by_cases e1 : c (36 + i) 0 = 0
      · rw [br_y e1]
        unfold F
        rw [if_pos (g1.symm.trans e1)]
        exact ih (i + 1) n c acc (by omega) (by omega) hc
      · have e2 : ¬ c0 (36 + i) 0 = 0 := fun h => e1 (g1.trans h)
        have e3 : f_S_stayedSilent (36 + i) e c = _ := s_silent h i12 e sc 0 FU c 0 (by omega) (by unfold FU; omega) hc
        have e4 := R_shift (i := i) (f := du c0 i) (n := acc) (((List.range' 0 sc).map s).filter (inW c0 i (c0 0 2).toInt e.toInt)) c 0
        rw [Int32.add_zero] at e4
        have e5 : F c0 ((List.range' 0 sc).map s) (c0 0 2).toInt e.toInt i (c, acc) = ((R i (du c0 i) (((List.range' 0 sc).map s).filter (inW c0 i (c0 0 2).toInt e.toInt)) (c, 0)).1, acc + (R i (du c0 i) (((List.range' 0 sc).map s).filter (inW c0 i (c0 0 2).toInt e.toInt)) (c, 0)).2) := by
          unfold F
          rw [if_neg e2, e4]
        rw [e5] at hF ⊢
        rw [br_n e1, e3, bd_t, nt_t]
        exact ih (i + 1) n _ _ (by omega) (by omega) hF
theorem m_t60 {c0 : go_V} {tc ic uc sc : Nat} {s : Nat → Nat} {nw sec : Int32} (h : KK c0 tc ic uc sc s) (h0 : 0 ≤ sec.toInt) (h1 : sec.toInt ≤ nw.toInt) (h2 : nw.toInt ≤ 999999) (rec42 : Int32 → Int32 → Int32 → go_V → Option go_R) (x1 x3 : Int32) : ∀ (d i n : Nat) (c m : go_V) (acc : Int32), i + d = ic → d < n → CF c0 c → RR uc c m → LL c m nw → KK c tc ic uc sc s → m 100 1 = sec →
    ∃ m', f_M_tick_60 rec42 n x1 acc x3 (nI i) m = rec42 x1 (FL c0 ((List.range' 0 sc).map s) (sec.toInt - 1) sec.toInt (List.range' i d) (c, acc)).2 (x3 + 1) m' ∧ RR uc (FL c0 ((List.range' 0 sc).map s) (sec.toInt - 1) sec.toInt (List.range' i d) (c, acc)).1 m' ∧ LL (FL c0 ((List.range' 0 sc).map s) (sec.toInt - 1) sec.toInt (List.range' i d) (c, acc)).1 m' nw ∧ MF m m' := by
  have b2 := h.1.2.1.2.1
  have b1 := h.1.2.1.1
  have hW : ∀ t, t ∈ (List.range' 0 sc).map s → t < 20 := fun t ht => by have := ((W_mem h.2.2.2.2.1 t).mp ht).1; omega
  have hW2 : ∀ t, t ∈ (List.range' 0 sc).map s → t < tc := fun t ht => ((W_mem h.2.2.2.2.1 t).mp ht).1
  intro d
  induction d with
  | zero =>
    intro i n c m acc he hn hc hR hL hK hs
    have q8 : m 100 10 = nI ic := hR.ic ▸ hK.1.1.2.1
    cases n with
    | zero => omega
    | succ n =>
      unfold f_M_tick_60
      rw [q8, br_y (nI_le (by omega) (by omega)), show List.range' i 0 = [] from rfl, FL_nil]
      exact ⟨m, rfl, hR, hL, fun _ _ _ => rfl⟩
  | succ d ih =>
    intro i n c m acc he hn hc hR hL hK hs
    have q8 : m 100 10 = nI ic := hR.ic ▸ hK.1.1.2.1
    cases n with
    | zero => omega
    | succ n =>
      have i12 : i < 12 := by omega
      have g1 : m 107 i = c0 (36 + i) 0 := (hR.inc (j := 0) i12 (by omega)).symm.trans (hc _ _ (by omega))
      have g2 : m 110 i = c0 (36 + i) 3 := (hR.inc (j := 3) i12 (by omega)).symm.trans (hc _ _ (by omega))
      unfold f_M_tick_60 f_M_tick_103
      rw [q8, br_n (nI_ge (by omega) (by omega)), go_in_nI i12 (by decide), gd_t, nI_clamp (by omega), gd_t, ← nI_succ, g1, g2, hs, Int32.add_zero]
      rw [show List.range' i (d + 1) = i :: List.range' (i + 1) d from rfl, FL_cons]
      by_cases e1 : c0 (36 + i) 0 = 0
      · rw [br_y e1]
        unfold F
        rw [if_pos e1]
        exact ih (i + 1) n c m acc (by omega) (by omega) hc hR hL hK hs
      · obtain ⟨m1, a1, a2, a3, a4⟩ := m_all (c0 := c0) i12 h0 h1 h2 2 (sec - c0 (36 + i) 3) tc 0 FU c m 0 (by omega) (by unfold FU; omega) hc hR hL hK hs
        have hcg : ∀ σ, R i (fun _ => sec) (((List.range' 0 sc).map s).filter (inW c0 i (sec.toInt - 1) sec.toInt)) σ = R i (du c0 i) (((List.range' 0 sc).map s).filter (inW c0 i (sec.toInt - 1) sec.toInt)) σ := by
          intro σ
          refine R_cong _ _ (fun t ht => ?_)
          have ht2 := List.mem_filter.mp ht
          have ht3 := (W_mem h.2.2.2.2.1 t).mp ht2.1
          have ht4 := ht2.2
          unfold inW at ht4
          rw [Bool.and_eq_true, decide_eq_true_eq, decide_eq_true_eq] at ht4
          exact Int32.toInt_inj.mp (by omega)
        rw [W_sec h i12 h0 (by omega), hcg] at a1 a2 a3
        have a0 : f_M_all 2 (sec - c0 (36 + i) 3) (nI i) m = _ := a1
        have e4 := R_shift (i := i) (f := du c0 i) (n := acc) (((List.range' 0 sc).map s).filter (inW c0 i (sec.toInt - 1) sec.toInt)) c 0
        rw [Int32.add_zero] at e4
        have hF := F_CF (a := sec.toInt - 1) (b := sec.toInt) (σ := (c, acc)) i12 hW hc
        have hF2 := F_KK (c0 := c0) (a := sec.toInt - 1) (b := sec.toInt) (σ := (c, acc)) i12 hW2 hK
        have e5 : F c0 ((List.range' 0 sc).map s) (sec.toInt - 1) sec.toInt i (c, acc) = ((R i (du c0 i) (((List.range' 0 sc).map s).filter (inW c0 i (sec.toInt - 1) sec.toInt)) (c, 0)).1, acc + (R i (du c0 i) (((List.range' 0 sc).map s).filter (inW c0 i (sec.toInt - 1) sec.toInt)) (c, 0)).2) := by
          unfold F
          rw [if_neg e1, e4]
        rw [e5] at hF hF2 ⊢
        rw [br_n e1, a0, bd_t, nt_t]
        obtain ⟨m', p1, p2, p3, p4⟩ := ih (i + 1) n _ m1 _ (by omega) (by omega) hF a2 a3 hF2 ((a4 100 1 (by omega)).trans hs)
        exact ⟨m', p1, p2, p3, fun a b hab => (p4 a b hab).trans (a4 a b hab)⟩
