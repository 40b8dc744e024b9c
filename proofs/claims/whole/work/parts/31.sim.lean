/-! THE TWO SIDES: the class's part in c, the reference's in m -/
def LR (a b nw : Int32) : Prop := (a = -1 ∧ b = -1000000) ∨ (a = b ∧ 0 ≤ a.toInt ∧ a.toInt ≤ nw.toInt)
/-- they tell the same: scale, triggers, incidents, units, counts -/
def RR (c m : go_V) : Prop :=
  (c 0 1 = m 100 2 ∧ c 0 4 = m 100 4 ∧ c 0 8 = m 100 10 ∧ c 0 10 = m 100 19 ∧ c 0 11 = m 100 24 ∧ c 0 12 = m 100 25 ∧ c 0 13 = m 100 26) ∧
  (∀ s k, s < 10 → k < 8 → c (2 + s) k = m 101 (8 * s + k)) ∧
  (∀ t j, t < 20 → j < 5 → c (16 + t) j = m (102 + j) t) ∧
  (∀ i j, i < 12 → j < 7 → c (36 + i) j = m (107 + j) i) ∧
  (∀ (u j : Nat), u < 40 → (u : Int) < (c 0 10).toInt → j < 4 → c (60 + u) j = m (115 + j) u)
def LL (c m : go_V) (nw : Int32) : Prop := ∀ i t, i < 12 → t < 20 → LR (c (48 + i) t) (m 114 (20 * i + t)) nw
/-- the class's own numbers: counts, ranges -/
def Iv (c : go_V) (tc ic uc sc : Nat) : Prop :=
  (c 0 4 = nI tc ∧ tc ≤ 20 ∧ c 0 8 = nI ic ∧ ic ≤ 12 ∧ c 0 10 = nI uc ∧ uc ≤ 40 ∧ c 0 6 = nI sc ∧ sc ≤ 20) ∧
  ((0 ≤ (c 0 2).toInt ∧ (c 0 2).toInt ≤ 999999) ∧ 0 ≤ (c 0 1).toInt ∧ (c 0 1).toInt ≤ 9) ∧
  (∀ t, t < tc → (0 ≤ (c (16 + t) 2).toInt ∧ (c (16 + t) 2).toInt ≤ 9) ∧ (0 ≤ (c (16 + t) 3).toInt ∧ (c (16 + t) 3).toInt ≤ 100000) ∧ (c (16 + t) 0 = 2 → 1 ≤ (c (16 + t) 1).toInt ∧ (c (16 + t) 1).toInt ≤ 100000)) ∧
  (∀ i, i < 12 → (0 ≤ (c (36 + i) 1).toInt ∧ (c (36 + i) 1).toInt ≤ 9) ∧ (c (36 + i) 0 = 0 ∨ c (36 + i) 0 = 1) ∧ (0 ≤ (c (36 + i) 2).toInt ∧ (c (36 + i) 2).toInt ≤ 10000) ∧ 0 ≤ (c (36 + i) 3).toInt ∧ (c (36 + i) 3).toInt ≤ (c 0 2).toInt) ∧
  (∀ u, u < 40 → (c (60 + u) 1 = 0 ∧ c (60 + u) 2 = -1 ∧ c (60 + u) 3 = -1) ∨ (u < uc ∧ (c (60 + u) 1 = 1 ∨ c (60 + u) 1 = 2) ∧ 0 ≤ (c (60 + u) 2).toInt))
/-- the silences: their triggers' numbers s, the shortest first, of the same the lesser number first; all of them -/
def Si (c : go_V) (tc sc : Nat) (s : Nat → Nat) : Prop :=
  (∀ j, j < sc → c 13 j = nI (s j) ∧ s j < tc ∧ c (16 + s j) 0 = 2) ∧
  (∀ j, j + 1 < sc → (c (16 + s j) 1).toInt < (c (16 + s (j + 1)) 1).toInt ∨ ((c (16 + s j) 1).toInt = (c (16 + s (j + 1)) 1).toInt ∧ s j < s (j + 1))) ∧
  (∀ t, t < tc → c (16 + t) 0 = 2 → ∃ j, j < sc ∧ s j = t)
def Sim (v : go_V) : Prop := RR v v ∧ LL v v (v 0 2) ∧ v 0 2 = v 100 1 ∧ ∃ tc ic uc sc s, Iv v tc ic uc sc ∧ Si v tc sc s
/-- what doesn't touch them -/
theorem RR.cong {c m c' m' : go_V} (h : RR c m) (hc : ∀ k j, k < 100 → c' k j = c k j) (hm : ∀ k j, 100 ≤ k → k < 119 → ¬ (k = 100 ∧ j = 0) → m' k j = m k j) : RR c' m' := by
  obtain ⟨⟨h1, h2, h3, h4, h5, h6, h7⟩, h8, h9, h10, h11⟩ := h
  refine ⟨⟨?_, ?_, ?_, ?_, ?_, ?_, ?_⟩, fun s k hs hk => ?_, fun t j ht hj => ?_, fun i j hi hj => ?_, fun u j hu hu2 hj => ?_⟩
  · rw [hc _ _ (by omega), hm _ _ (by omega) (by omega) (by omega)]; exact h1
  · rw [hc _ _ (by omega), hm _ _ (by omega) (by omega) (by omega)]; exact h2
  · rw [hc _ _ (by omega), hm _ _ (by omega) (by omega) (by omega)]; exact h3
  · rw [hc _ _ (by omega), hm _ _ (by omega) (by omega) (by omega)]; exact h4
  · rw [hc _ _ (by omega), hm _ _ (by omega) (by omega) (by omega)]; exact h5
  · rw [hc _ _ (by omega), hm _ _ (by omega) (by omega) (by omega)]; exact h6
  · rw [hc _ _ (by omega), hm _ _ (by omega) (by omega) (by omega)]; exact h7
  · rw [hc _ _ (by omega), hm _ _ (by omega) (by omega) (by omega)]; exact h8 s k hs hk
  · rw [hc _ _ (by omega), hm _ _ (by omega) (by omega) (by omega)]; exact h9 t j ht hj
  · rw [hc _ _ (by omega), hm _ _ (by omega) (by omega) (by omega)]; exact h10 i j hi hj
  · rw [hc _ _ (by omega)] at hu2
    rw [hc _ _ (by omega), hm _ _ (by omega) (by omega) (by omega)]; exact h11 u j hu hu2 hj
theorem LL.cong {c m c' m' : go_V} {nw : Int32} (h : LL c m nw) (hc : ∀ k j, 48 ≤ k → k < 60 → c' k j = c k j) (hm : ∀ j, m' 114 j = m 114 j) : LL c' m' nw := by
  intro i t hi ht
  rw [hc _ _ (by omega) (by omega), hm]
  exact h i t hi ht
theorem Iv.cong {c c' : go_V} {tc ic uc sc : Nat} (h : Iv c tc ic uc sc) (hc : ∀ k j, k < 100 → c' k j = c k j) : Iv c' tc ic uc sc := by
  obtain ⟨h1, h2, h3, h4, h5⟩ := h
  refine ⟨?_, ?_, fun t ht => ?_, fun i hi => ?_, fun u hu => ?_⟩
  · rw [hc _ _ (by omega), hc _ _ (by omega), hc _ _ (by omega), hc _ _ (by omega)]; exact h1
  · rw [hc _ _ (by omega), hc _ _ (by omega)]; exact h2
  · have : t ≤ 20 := by have := h1.2.1; omega
    rw [hc _ _ (by omega), hc _ _ (by omega), hc _ _ (by omega), hc _ _ (by omega)]; exact h3 t ht
  · rw [hc _ _ (by omega), hc _ _ (by omega), hc _ _ (by omega), hc _ _ (by omega), hc _ _ (by omega)]; exact h4 i hi
  · rw [hc _ _ (by omega), hc _ _ (by omega), hc _ _ (by omega)]; exact h5 u hu
theorem Si.cong {c c' : go_V} {tc sc : Nat} {s : Nat → Nat} (h : Si c tc sc s) (ht : tc ≤ 20) (hc : ∀ k j, (k = 13 ∨ (16 ≤ k ∧ k < 36 ∧ j < 2)) → c' k j = c k j) : Si c' tc sc s := by
  obtain ⟨h1, h2, h3⟩ := h
  refine ⟨fun j hj => ?_, fun j hj => ?_, fun t ht2 hk => ?_⟩
  · have h4 := h1 j hj
    rw [hc _ _ (Or.inl rfl), hc _ _ (Or.inr (by omega))]
    exact h4
  · have h4 := (h1 j (by omega)).2.1
    have h5 := (h1 (j + 1) hj).2.1
    rw [hc _ _ (Or.inr (by omega)), hc _ _ (Or.inr (by omega))]
    exact h2 j hj
  · rw [hc _ _ (Or.inr (by omega))] at hk
    exact h3 t ht2 hk
theorem Sim.cong {v v' : go_V} (h : Sim v) (e : ∀ k j, k < 119 → ¬ (k = 100 ∧ j = 0) → v' k j = v k j) : Sim v' := by
  obtain ⟨h1, h2, h3, tc, ic, uc, sc, s, h4, h5⟩ := h
  refine ⟨h1.cong (fun k j hk => e k j (by omega) (by omega)) (fun k j hk hk2 hk3 => e k j hk2 hk3), ?_, ?_, tc, ic, uc, sc, s, h4.cong (fun k j hk => e k j (by omega) (by omega)), h5.cong h4.1.2.1 (fun k j hk => e k j (by omega) (by omega))⟩
  · rw [e 0 2 (by omega) (by omega)]
    exact h2.cong (fun k j hk hk2 => e k j (by omega) (by omega)) (fun j => e 114 j (by omega) (by omega))
  · rw [e 0 2 (by omega) (by omega), e 100 1 (by omega) (by omega)]
    exact h3
/-- what an op of the law needs: the class by its helper, the reference behind it; a kind of exception and a number that agree -/
def OpV (fL fM : go_V → Option go_R) (v : go_V) : Prop := ∃ (k : Int32) (v1 v2 : go_V) (x : Int32) (z : Nat), fL v = some (0, k, 0, v1) ∧ fM v1 = some (0, x, z, v2) ∧ v2 100 0 = k ∧ Sim v2
def OpI (fL fM : go_V → Option go_R) (v : go_V) : Prop := ∃ (k : Int32) (v1 v2 : go_V) (x : Int32) (z : Nat), fL v = some (0, k, 0, v1) ∧ fM v1 = some (0, x, z, v2) ∧ v2 100 0 = k ∧ (k = 0 → v2 119 0 = x) ∧ Sim v2
