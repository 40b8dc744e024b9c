/-! TICK: acts at two incidents change places; lists -/
theorem aC_13 {c : go_V} {i t : Nat} {sec : Int32} (hi : i < 12) (ht : t < 20) : aC c i t sec 0 13 = if lw c i t = true then c 0 13 + 1 else c 0 13 := by
  unfold aC a3
  split
  · rw [u2_s]
  · rw [u2_o (by omega), u2_o (by omega), u2_o (by omega), u2_o (by omega), u2_o (by omega)]
theorem aC_t4 {c : go_V} {i t k : Nat} {sec : Int32} (hi : i < 12) (ht : t < 20) (h1 : 16 ≤ k) (h2 : k < 36) : aC c i t sec k 4 = if k = 16 + t then c k 4 + 1 else c k 4 := by
  by_cases e : k = 16 + t
  · subst e
    rw [if_pos rfl]
    unfold aC a3
    split
    · rw [u2_o (by omega), u2_s]
    · rw [u2_o (by omega), u2_o (by omega), u2_s]
  · rw [if_neg e]
    exact aC_o (by omega)
theorem aC_loc {c c' : go_V} {i t k j : Nat} {sec : Int32} (hi : i < 12) (ht : t < 20) (hk : k = 48 + i ∨ k = 36 + i) (h1 : ∀ j, c' (48 + i) j = c (48 + i) j) (h2 : ∀ j, c' (36 + i) j = c (36 + i) j) (hlw : lw c' i t = lw c i t) (hsT : sT c' t = sT c t) : aC c' i t sec k j = aC c i t sec k j := by
  have hc : c' k j = c k j := by
    rcases hk with rfl | rfl
    · exact h1 j
    · exact h2 j
  unfold aC a3
  rw [hlw, hsT]
  split
  · unfold u2
    rw [if_neg (show ¬ (k = 0 ∧ j = 13) by omega), if_neg (show ¬ (k = 0 ∧ j = 13) by omega), if_neg (show ¬ (k = 16 + t ∧ j = 4) by omega), if_neg (show ¬ (k = 16 + t ∧ j = 4) by omega), h2, hc]
  · unfold u2
    rw [if_neg (show ¬ (k = 16 + t ∧ j = 4) by omega), if_neg (show ¬ (k = 16 + t ∧ j = 4) by omega), h2, h2, hc]
theorem sT_o {c : go_V} {i t i2 t2 : Nat} {s2 : Int32} (hi : i2 < 12) (ht : t2 < 20) (ht1 : t < 20) : sT (aC c i2 t2 s2) t = sT c t := by
  unfold sT
  rw [aC_o (by omega), aC_o (by omega)]
theorem lw_o {c : go_V} {i t i2 t2 : Nat} {s2 : Int32} (hi : i < 12) (hi2 : i2 < 12) (ht : t2 < 20) (ht1 : t < 20) (h : ¬ i = i2) : lw (aC c i2 t2 s2) i t = lw c i t := by
  unfold lw
  rw [sT_o (i := i) hi2 ht ht1, aC_o (by omega)]
theorem aC_comm {c : go_V} {i t i2 t2 : Nat} {s1 s2 : Int32} (hi : i < 12) (hi2 : i2 < 12) (ht : t < 20) (ht2 : t2 < 20) (h : ¬ i = i2) : aC (aC c i2 t2 s2) i t s1 = aC (aC c i t s1) i2 t2 s2 := by
  funext k j
  have l1 : lw (aC c i2 t2 s2) i t = lw c i t := lw_o hi hi2 ht2 ht h
  have l2 : lw (aC c i t s1) i2 t2 = lw c i2 t2 := lw_o hi2 hi ht ht2 (fun e => h e.symm)
  by_cases h1 : k = 0 ∧ j = 13
  · obtain ⟨rfl, rfl⟩ := h1
    rw [aC_13 hi ht, aC_13 hi2 ht2, aC_13 hi2 ht2, aC_13 hi ht, l1, l2]
    split <;> split <;> rfl
  · by_cases h2 : (16 ≤ k ∧ k < 36) ∧ j = 4
    · obtain ⟨⟨h3, h4⟩, rfl⟩ := h2
      rw [aC_t4 hi ht h3 h4, aC_t4 hi2 ht2 h3 h4, aC_t4 hi2 ht2 h3 h4, aC_t4 hi ht h3 h4]
      split <;> split <;> rfl
    · by_cases h3 : k = 48 + i ∨ k = 36 + i
      · rw [aC_o (c := aC c i t s1) (by omega)]
        exact aC_loc hi ht h3 (fun j => aC_o (by omega)) (fun j => aC_o (by omega)) l1 (sT_o (i := i) hi2 ht2 ht)
      · rw [aC_o (c := aC c i2 t2 s2) (by omega)]
        by_cases h4 : k = 48 + i2 ∨ k = 36 + i2
        · exact (aC_loc hi2 ht2 h4 (fun j => aC_o (by omega)) (fun j => aC_o (by omega)) l2 (sT_o (i := i2) hi ht ht2)).symm
        · rw [aC_o (by omega), aC_o (by omega), aC_o (by omega)]
theorem aok_o {c : go_V} {i t i2 t2 : Nat} {s1 s2 : Int32} (hi : i < 12) (hi2 : i2 < 12) (ht : t < 20) (ht2 : t2 < 20) (h : ¬ i = i2) : aok (aC c i2 t2 s2) i t s1 = aok c i t s1 := by
  unfold aok
  rw [aC_o (by omega), aC_o (by omega)]
theorem A_comm {i t i2 t2 : Nat} {s1 s2 : Int32} (hi : i < 12) (hi2 : i2 < 12) (ht : t < 20) (ht2 : t2 < 20) (h : ¬ i = i2) (σ : go_V × Int32) : A i t s1 (A i2 t2 s2 σ) = A i2 t2 s2 (A i t s1 σ) := by
  have e1 : ∀ σ : go_V × Int32, A i t s1 σ = if aok σ.1 i t s1 = true then (aC σ.1 i t s1, σ.2 + 1) else σ := fun _ => rfl
  have e2 : ∀ σ : go_V × Int32, A i2 t2 s2 σ = if aok σ.1 i2 t2 s2 = true then (aC σ.1 i2 t2 s2, σ.2 + 1) else σ := fun _ => rfl
  by_cases h1 : aok σ.1 i t s1 = true
  · by_cases h2 : aok σ.1 i2 t2 s2 = true
    · rw [e2 σ, if_pos h2, e1 σ, if_pos h1, e1, e2]
      dsimp only
      rw [aok_o hi hi2 ht ht2 h, aok_o hi2 hi ht2 ht (fun e => h e.symm), if_pos h1, if_pos h2, aC_comm hi hi2 ht ht2 h]
    · rw [e2 σ, if_neg h2, e1 σ, if_pos h1, e2]
      dsimp only
      rw [aok_o hi2 hi ht2 ht (fun e => h e.symm), if_neg h2]
  · by_cases h2 : aok σ.1 i2 t2 s2 = true
    · rw [e2 σ, if_pos h2, e1 σ, if_neg h1, e1]
      dsimp only
      rw [aok_o hi hi2 ht ht2 h, if_neg h1, e2 σ, if_pos h2]
    · rw [e2 σ, if_neg h2, e1 σ, if_neg h1, e2 σ, if_neg h2]
theorem R_cons {i t : Nat} {f : Nat → Int32} {l : List Nat} {σ : go_V × Int32} : R i f (t :: l) σ = R i f l (A i t (f t) σ) := by
  unfold R
  rw [List.foldl_cons]
theorem R_nil {i : Nat} {f : Nat → Int32} {σ : go_V × Int32} : R i f [] σ = σ := by
  unfold R
  rw [List.foldl_nil]
theorem R_A {i i2 t2 : Nat} {f : Nat → Int32} {s2 : Int32} (hi : i < 12) (hi2 : i2 < 12) (ht2 : t2 < 20) (h : ¬ i = i2) : ∀ (l : List Nat) (σ : go_V × Int32), (∀ t, t ∈ l → t < 20) → R i f l (A i2 t2 s2 σ) = A i2 t2 s2 (R i f l σ) := by
  intro l
  induction l with
  | nil => exact fun σ _ => rfl
  | cons t l ih =>
    intro σ hl
    rw [R_cons, R_cons, A_comm hi hi2 (hl t List.mem_cons_self) ht2 h, ih _ (fun t h => hl t (List.mem_cons_of_mem _ h))]
theorem R_R {i i2 : Nat} {f g : Nat → Int32} (hi : i < 12) (hi2 : i2 < 12) (h : ¬ i = i2) (l : List Nat) (hl : ∀ t, t ∈ l → t < 20) : ∀ (l2 : List Nat) (σ : go_V × Int32), (∀ t, t ∈ l2 → t < 20) → R i f l (R i2 g l2 σ) = R i2 g l2 (R i f l σ) := by
  intro l2
  induction l2 with
  | nil => exact fun σ _ => rfl
  | cons t l2 ih =>
    intro σ hl2
    rw [R_cons, R_cons, ih _ (fun t h => hl2 t (List.mem_cons_of_mem _ h)), R_A hi hi2 (hl2 t List.mem_cons_self) h l σ hl]
theorem R_app {i : Nat} {f : Nat → Int32} {l l2 : List Nat} {σ : go_V × Int32} : R i f (l ++ l2) σ = R i f l2 (R i f l σ) := List.foldl_append
theorem R_cong {i : Nat} {f g : Nat → Int32} : ∀ (l : List Nat) (σ : go_V × Int32), (∀ t, t ∈ l → f t = g t) → R i f l σ = R i g l σ := by
  intro l
  induction l with
  | nil => exact fun σ _ => R_nil.trans R_nil.symm
  | cons t l ih =>
    intro σ hl
    rw [R_cons, R_cons, hl t List.mem_cons_self, ih _ (fun t h => hl t (List.mem_cons_of_mem _ h))]
theorem A_shift {i t : Nat} {s : Int32} {c : go_V} {n k : Int32} : A i t s (c, n + k) = ((A i t s (c, k)).1, n + (A i t s (c, k)).2) := by
  unfold A
  split
  · show (_, n + k + 1) = (_, n + (k + 1))
    rw [Int32.add_assoc]
  · rfl
theorem R_shift {i : Nat} {f : Nat → Int32} {n : Int32} : ∀ (l : List Nat) (c : go_V) (k : Int32), R i f l (c, n + k) = ((R i f l (c, k)).1, n + (R i f l (c, k)).2) := by
  intro l
  induction l with
  | nil => exact fun c k => rfl
  | cons t l ih =>
    intro c k
    rw [R_cons, R_cons, A_shift]
    exact ih _ _
/-- two ways to sort -/
theorem sorted_ext : ∀ (l1 l2 : List Nat), l1.Pairwise (· < ·) → l2.Pairwise (· < ·) → (∀ x, x ∈ l1 ↔ x ∈ l2) → l1 = l2 := by
  intro l1
  induction l1 with
  | nil =>
    intro l2 _ _ h
    cases l2 with
    | nil => rfl
    | cons b l2 => exact absurd ((h b).mpr List.mem_cons_self) List.not_mem_nil
  | cons a l1 ih =>
    intro l2 h1 h2 h
    cases l2 with
    | nil => exact absurd ((h a).mp List.mem_cons_self) List.not_mem_nil
    | cons b l2 =>
      rw [List.pairwise_cons] at h1 h2
      have e : a = b := by
        rcases List.mem_cons.mp ((h a).mp List.mem_cons_self) with e | e
        · exact e
        · rcases List.mem_cons.mp ((h b).mpr List.mem_cons_self) with e2 | e2
          · exact e2.symm
          · have := h1.1 b e2
            have := h2.1 a e
            omega
      subst e
      rw [ih l2 h1.2 h2.2]
      intro x
      refine ⟨fun hx => ?_, fun hx => ?_⟩
      · rcases List.mem_cons.mp ((h x).mp (List.mem_cons_of_mem _ hx)) with e2 | e2
        · have := h1.1 x hx
          omega
        · exact e2
      · rcases List.mem_cons.mp ((h x).mpr (List.mem_cons_of_mem _ hx)) with e2 | e2
        · have := h2.1 x hx
          omega
        · exact e2
theorem filter_split {d : Nat → Int} {a b e : Int} (hab : a ≤ b) (hbe : b ≤ e) : ∀ (l : List Nat), l.Pairwise (fun x y => d x ≤ d y) → l.filter (fun t => decide (a < d t) && decide (d t ≤ e)) = l.filter (fun t => decide (a < d t) && decide (d t ≤ b)) ++ l.filter (fun t => decide (b < d t) && decide (d t ≤ e)) := by
  intro l
  induction l with
  | nil => exact fun _ => rfl
  | cons t l ih =>
    intro h
    rw [List.pairwise_cons] at h
    rw [List.filter_cons, List.filter_cons, List.filter_cons, ih h.2]
    by_cases h1 : a < d t
    · by_cases h2 : d t ≤ b
      · rw [decide_eq_true h1, decide_eq_true h2, decide_eq_true (show d t ≤ e by omega), decide_eq_false (show ¬ b < d t by omega)]
        rfl
      · by_cases h3 : d t ≤ e
        · rw [decide_eq_true h1, decide_eq_false h2, decide_eq_true h3, decide_eq_true (show b < d t by omega)]
          have e0 : l.filter (fun t => decide (a < d t) && decide (d t ≤ b)) = [] := by
            rw [List.filter_eq_nil_iff]
            intro x hx
            have := h.1 x hx
            rw [decide_eq_false (show ¬ d x ≤ b by omega), Bool.and_false]
            exact Bool.false_ne_true
          rw [e0]
          rfl
        · rw [decide_eq_false h2, decide_eq_false h3, Bool.and_false, Bool.and_false]
          rfl
    · rw [decide_eq_false h1, decide_eq_false (show ¬ b < d t by omega), Bool.false_and, Bool.false_and]
      rfl
