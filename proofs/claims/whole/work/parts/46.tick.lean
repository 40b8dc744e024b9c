/-! TICK: what an incident's silences do between two seconds -/
def du (c0 : go_V) (i t : Nat) : Int32 := c0 (36 + i) 3 + c0 (16 + t) 1
def inW (c0 : go_V) (i : Nat) (a b : Int) : Nat → Bool := fun t => decide (a < (du c0 i t).toInt) && decide ((du c0 i t).toInt ≤ b)
def F (c0 : go_V) (W : List Nat) (a b : Int) (i : Nat) (σ : go_V × Int32) : go_V × Int32 := if c0 (36 + i) 0 = 0 then σ else R i (du c0 i) (W.filter (inW c0 i a b)) σ
def FL (c0 : go_V) (W : List Nat) (a b : Int) (l : List Nat) (σ : go_V × Int32) : go_V × Int32 := l.foldl (fun σ i => F c0 W a b i σ) σ
theorem FL_nil {c0 : go_V} {W : List Nat} {a b : Int} {σ : go_V × Int32} : FL c0 W a b [] σ = σ := by
  unfold FL
  rw [List.foldl_nil]
theorem FL_cons {c0 : go_V} {W : List Nat} {a b : Int} {i : Nat} {l : List Nat} {σ : go_V × Int32} : FL c0 W a b (i :: l) σ = FL c0 W a b l (F c0 W a b i σ) := by
  unfold FL
  rw [List.foldl_cons]
theorem fl_lt {c0 : go_V} {W : List Nat} {n i : Nat} {a b : Int} (hW : ∀ t, t ∈ W → t < n) : ∀ t, t ∈ W.filter (inW c0 i a b) → t < n := fun t h => hW t (List.mem_filter.mp h).1
theorem F_CF {c0 : go_V} {W : List Nat} {a b : Int} {i : Nat} {σ : go_V × Int32} (hi : i < 12) (hW : ∀ t, t ∈ W → t < 20) (h : CF c0 σ.1) : CF c0 (F c0 W a b i σ).1 := by
  unfold F
  split
  · exact h
  · exact R_CF hi _ _ (fl_lt hW) h
theorem F_KK {c0 : go_V} {W : List Nat} {a b : Int} {i : Nat} {σ : go_V × Int32} {tc ic uc sc : Nat} {s : Nat → Nat} (hi : i < 12) (hW : ∀ t, t ∈ W → t < tc) (h : KK σ.1 tc ic uc sc s) : KK (F c0 W a b i σ).1 tc ic uc sc s := by
  unfold F
  split
  · exact h
  · exact R_KK hi _ _ (fl_lt hW) h
theorem FL_CF {c0 : go_V} {W : List Nat} {a b : Int} (hW : ∀ t, t ∈ W → t < 20) : ∀ (l : List Nat) (σ : go_V × Int32), (∀ i, i ∈ l → i < 12) → CF c0 σ.1 → CF c0 (FL c0 W a b l σ).1 := by
  intro l
  induction l with
  | nil => exact fun σ _ h => by rw [FL_nil]; exact h
  | cons i l ih =>
    intro σ hl h
    rw [FL_cons]
    exact ih _ (fun i h => hl i (List.mem_cons_of_mem _ h)) (F_CF (hl i List.mem_cons_self) hW h)
theorem FL_KK {c0 : go_V} {W : List Nat} {a b : Int} {tc ic uc sc : Nat} {s : Nat → Nat} (hW : ∀ t, t ∈ W → t < tc) : ∀ (l : List Nat) (σ : go_V × Int32), (∀ i, i ∈ l → i < 12) → KK σ.1 tc ic uc sc s → KK (FL c0 W a b l σ).1 tc ic uc sc s := by
  intro l
  induction l with
  | nil => exact fun σ _ h => by rw [FL_nil]; exact h
  | cons i l ih =>
    intro σ hl h
    rw [FL_cons]
    exact ih _ (fun i h => hl i (List.mem_cons_of_mem _ h)) (F_KK (hl i List.mem_cons_self) hW h)
theorem F_comm {c0 : go_V} {W : List Nat} {a b a2 b2 : Int} {i i2 : Nat} (hi : i < 12) (hi2 : i2 < 12) (h : ¬ i = i2) (hW : ∀ t, t ∈ W → t < 20) (σ : go_V × Int32) : F c0 W a b i (F c0 W a2 b2 i2 σ) = F c0 W a2 b2 i2 (F c0 W a b i σ) := by
  unfold F
  by_cases h1 : c0 (36 + i) 0 = 0
  · rw [if_pos h1, if_pos h1]
  · by_cases h2 : c0 (36 + i2) 0 = 0
    · rw [if_pos h2, if_pos h2]
    · rw [if_neg h1, if_neg h2, if_neg h1, if_neg h2]
      exact R_R hi hi2 h _ (fl_lt hW) _ _ (fl_lt hW)
theorem FL_F {c0 : go_V} {W : List Nat} {a b a2 b2 : Int} {i2 : Nat} (hi2 : i2 < 12) (hW : ∀ t, t ∈ W → t < 20) : ∀ (l : List Nat) (σ : go_V × Int32), (∀ i, i ∈ l → i < 12 ∧ ¬ i = i2) → FL c0 W a b l (F c0 W a2 b2 i2 σ) = F c0 W a2 b2 i2 (FL c0 W a b l σ) := by
  intro l
  induction l with
  | nil => exact fun σ _ => by rw [FL_nil, FL_nil]
  | cons i l ih =>
    intro σ hl
    have h1 := hl i List.mem_cons_self
    rw [FL_cons, FL_cons, F_comm h1.1 hi2 h1.2 hW, ih _ (fun i h => hl i (List.mem_cons_of_mem _ h))]
theorem F_split {c0 : go_V} {W : List Nat} {a b e : Int} {i : Nat} (hab : a ≤ b) (hbe : b ≤ e) (hs : W.Pairwise (fun x y => (du c0 i x).toInt ≤ (du c0 i y).toInt)) (σ : go_V × Int32) : F c0 W a e i σ = F c0 W b e i (F c0 W a b i σ) := by
  unfold F
  by_cases h : c0 (36 + i) 0 = 0
  · rw [if_pos h, if_pos h, if_pos h]
  · rw [if_neg h, if_neg h, if_neg h, ← R_app]
    have e0 : W.filter (inW c0 i a e) = W.filter (inW c0 i a b) ++ W.filter (inW c0 i b e) := filter_split (d := fun t => (du c0 i t).toInt) hab hbe W hs
    rw [e0]
theorem FL_split {c0 : go_V} {W : List Nat} {a b e : Int} (hab : a ≤ b) (hbe : b ≤ e) (hW : ∀ t, t ∈ W → t < 20) (hs : ∀ i, i < 12 → W.Pairwise (fun x y => (du c0 i x).toInt ≤ (du c0 i y).toInt)) : ∀ (d i : Nat) (σ : go_V × Int32), i + d ≤ 12 → FL c0 W a e (List.range' i d) σ = FL c0 W b e (List.range' i d) (FL c0 W a b (List.range' i d) σ) := by
  intro d
  induction d with
  | zero => exact fun i σ _ => by rw [show List.range' i 0 = [] from rfl, FL_nil, FL_nil, FL_nil]
  | succ d ih =>
    intro i σ h
    rw [show List.range' i (d + 1) = i :: List.range' (i + 1) d from rfl, FL_cons, FL_cons, FL_cons, ih (i + 1) _ (by omega), F_split hab hbe (hs i (by omega)), FL_F (a := a) (b := b) (by omega) hW _ _ (fun j hj => by rw [List.mem_range'_1] at hj; omega)]
/-- the order of the silences -/
theorem si_lex {c : go_V} {tc sc : Nat} {s : Nat → Nat} (h : Si c tc sc s) : ∀ (d j : Nat), j + d + 1 < sc → (c (16 + s j) 1).toInt < (c (16 + s (j + d + 1)) 1).toInt ∨ ((c (16 + s j) 1).toInt = (c (16 + s (j + d + 1)) 1).toInt ∧ s j < s (j + d + 1)) := by
  intro d
  induction d with
  | zero => exact fun j hj => h.2.1 j hj
  | succ d ih =>
    intro j hj
    have h1 := ih j (by omega)
    have h2 := h.2.1 (j + d + 1) (by omega)
    rw [show j + (d + 1) + 1 = j + d + 1 + 1 by omega]
    omega
theorem W_pw {c : go_V} {tc sc : Nat} {s : Nat → Nat} (h : Si c tc sc s) : ((List.range' 0 sc).map s).Pairwise (fun x y => (c (16 + x) 1).toInt < (c (16 + y) 1).toInt ∨ ((c (16 + x) 1).toInt = (c (16 + y) 1).toInt ∧ x < y)) := by
  rw [List.pairwise_map]
  refine List.Pairwise.imp_of_mem ?_ (List.pairwise_lt_range' (s := 0) (n := sc))
  intro x y hx hy hxy
  rw [List.mem_range'_1] at hx hy
  have h1 := si_lex h (y - x - 1) x (by omega)
  rw [show x + (y - x - 1) + 1 = y by omega] at h1
  exact h1
theorem W_mem {c : go_V} {tc sc : Nat} {s : Nat → Nat} (h : Si c tc sc s) (t : Nat) : t ∈ (List.range' 0 sc).map s ↔ t < tc ∧ c (16 + t) 0 = 2 := by
  rw [List.mem_map]
  refine ⟨fun h1 => ?_, fun h1 => ?_⟩
  · obtain ⟨j, hj, e⟩ := h1
    rw [List.mem_range'_1] at hj
    have h2 := h.1 j (by omega)
    rw [e] at h2
    exact h2.2
  · obtain ⟨j, hj, e⟩ := h.2.2 t h1.1 h1.2
    exact ⟨j, by rw [List.mem_range'_1]; omega, e⟩
theorem du_toInt {c : go_V} {tc ic uc sc : Nat} {s : Nat → Nat} (h : KK c tc ic uc sc s) {i t : Nat} (hi : i < 12) (ht : t < tc) (hk : c (16 + t) 0 = 2) : (du c i t).toInt = (c (36 + i) 3).toInt + (c (16 + t) 1).toInt := by
  have h1 := (h.2.1 t ht).2.2 hk
  have h2 := (h.2.2.1 i hi).2.2
  have h3 := h.1.2.2.1
  unfold du
  exact i_add (by omega) (by omega)
theorem W_du {c : go_V} {tc ic uc sc : Nat} {s : Nat → Nat} (h : KK c tc ic uc sc s) {i : Nat} (hi : i < 12) : ((List.range' 0 sc).map s).Pairwise (fun x y => (du c i x).toInt ≤ (du c i y).toInt) := by
  refine List.Pairwise.imp_of_mem ?_ (W_pw h.2.2.2.2.1)
  intro x y hx hy hxy
  rw [W_mem h.2.2.2.2.1] at hx hy
  rw [du_toInt h hi hx.1 hx.2, du_toInt h hi hy.1 hy.2]
  omega
/-- a second's silences, as the reference finds them -/
theorem W_sec {c : go_V} {tc ic uc sc : Nat} {s : Nat → Nat} (h : KK c tc ic uc sc s) {i : Nat} (hi : i < 12) {sec : Int32} (h0 : 0 ≤ sec.toInt) (h1 : sec.toInt ≤ 999999) : (List.range' 0 tc).filter (pm c 2 (sec - c (36 + i) 3)) = ((List.range' 0 sc).map s).filter (inW c i (sec.toInt - 1) sec.toInt) := by
  have hl := (h.2.2.1 i hi).2.2
  have hn := h.1.2.2.1
  have es : (sec - c (36 + i) 3).toInt = sec.toInt - (c (36 + i) 3).toInt := i_sub (by omega) (by omega)
  refine sorted_ext _ _ (List.Pairwise.filter _ (List.pairwise_lt_range' (s := 0) (n := tc))) ?_ (fun t => ?_)
  · rw [List.pairwise_filter]
    refine List.Pairwise.imp_of_mem ?_ (W_pw h.2.2.2.2.1)
    intro x y hx hy hxy px py
    rw [W_mem h.2.2.2.2.1] at hx hy
    unfold inW at px py
    rw [Bool.and_eq_true, decide_eq_true_eq, decide_eq_true_eq] at px py
    rw [du_toInt h hi hx.1 hx.2] at px
    rw [du_toInt h hi hy.1 hy.2] at py
    omega
  · rw [List.mem_filter, List.mem_filter, W_mem h.2.2.2.2.1, List.mem_range'_1]
    unfold pm inW
    rw [Bool.and_eq_true, Bool.and_eq_true, decide_eq_true_eq, decide_eq_true_eq, decide_eq_true_eq, decide_eq_true_eq]
    refine ⟨fun hx => ?_, fun hx => ?_⟩
    · obtain ⟨h2, h3, h4⟩ := hx
      have e := du_toInt h hi (show t < tc by omega) h3
      rw [h4, es] at e
      exact ⟨⟨by omega, h3⟩, by omega, by omega⟩
    · obtain ⟨⟨h2, h3⟩, h4, h5⟩ := hx
      have e := du_toInt h hi h2 h3
      exact ⟨by omega, h3, Int32.toInt_inj.mp (by rw [es]; omega)⟩
