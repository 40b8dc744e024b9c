/-! THE TWO SIDES: the class's part in c, the reference's in m. PP: which place of the one is which of the other -/
def PP (uc kc jc km jm : Nat) : Prop :=
  (kc = 0 ∧ km = 100 ∧ ((jc = 1 ∧ jm = 2) ∨ (jc = 4 ∧ jm = 4) ∨ (jc = 8 ∧ jm = 10) ∨ (jc = 10 ∧ jm = 19) ∨ (jc = 11 ∧ jm = 24) ∨ (jc = 12 ∧ jm = 25) ∨ (jc = 13 ∧ jm = 26))) ∨
  (2 ≤ kc ∧ kc < 12 ∧ jc < 8 ∧ km = 101 ∧ jm = 8 * (kc - 2) + jc) ∨
  (16 ≤ kc ∧ kc < 36 ∧ jc < 5 ∧ km = 102 + jc ∧ jm = kc - 16) ∨
  (36 ≤ kc ∧ kc < 48 ∧ jc < 7 ∧ km = 107 + jc ∧ jm = kc - 36) ∨
  (60 ≤ kc ∧ kc < 60 + uc ∧ kc < 100 ∧ jc < 4 ∧ km = 115 + jc ∧ jm = kc - 60)
def RR (uc : Nat) (c m : go_V) : Prop := ∀ kc jc km jm, PP uc kc jc km jm → c kc jc = m km jm
theorem RR.cong {uc : Nat} {c m c' m' : go_V} (h : RR uc c m) (hc : ∀ k j, k < 100 → c' k j = c k j) (hm : ∀ k j, 100 ≤ k → k < 119 → ¬ (k = 100 ∧ j < 2) → m' k j = m k j) : RR uc c' m' := by
  intro kc jc km jm hp
  have hp' := hp
  unfold PP at hp'
  rw [hc _ _ (by omega), hm _ _ (by omega) (by omega) (by omega)]
  exact h _ _ _ _ hp
theorem PP_inj {uc kc jc km jm a b a2 b2 : Nat} (h : PP uc kc jc km jm) (h2 : PP uc a b a2 b2) : (a = kc ∧ b = jc) ↔ (a2 = km ∧ b2 = jm) := by
  unfold PP at h h2
  rcases h with h | h | h | h | h <;> rcases h2 with h2 | h2 | h2 | h2 | h2 <;> omega
theorem RR.upd {uc : Nat} {c m : go_V} (h : RR uc c m) {kc jc km jm : Nat} (hp : PP uc kc jc km jm) (x : Int32) : RR uc (u2 c kc jc x) (u2 m km jm x) := by
  intro a b a2 b2 hq
  have e := PP_inj hp hq
  unfold u2
  by_cases h1 : a = kc ∧ b = jc
  · rw [if_pos h1, if_pos (e.mp h1)]
  · rw [if_neg h1, if_neg (fun h2 => h1 (e.mpr h2))]
    exact h _ _ _ _ hq
theorem RR.updc {uc : Nat} {c m : go_V} (h : RR uc c m) {k j : Nat} (x : Int32) (hn : ∀ a b, ¬ PP uc k j a b) : RR uc (u2 c k j x) m := by
  intro a b a2 b2 hq
  rw [u2_o]
  · exact h _ _ _ _ hq
  · rintro ⟨rfl, rfl⟩
    exact hn _ _ hq
theorem RR.updm {uc : Nat} {c m : go_V} (h : RR uc c m) {k j : Nat} (x : Int32) (hn : ∀ a b, ¬ PP uc a b k j) : RR uc c (u2 m k j x) := by
  intro a b a2 b2 hq
  rw [u2_o]
  · exact h _ _ _ _ hq
  · rintro ⟨rfl, rfl⟩
    exact hn _ _ hq
def LR (a b nw : Int32) : Prop := (a = -1 ∧ b = -1000000) ∨ (a = b ∧ 0 ≤ a.toInt ∧ a.toInt ≤ nw.toInt)
def LL (c m : go_V) (nw : Int32) : Prop := ∀ i t, i < 12 → t < 20 → LR (c (48 + i) t) (m 114 (20 * i + t)) nw
theorem LL.cong {c m c' m' : go_V} {nw : Int32} (h : LL c m nw) (hc : ∀ k j, 48 ≤ k → k < 60 → c' k j = c k j) (hm : ∀ j, m' 114 j = m 114 j) : LL c' m' nw := by
  intro i t hi ht
  rw [hc _ _ (by omega) (by omega), hm]
  exact h i t hi ht
theorem LL.upd {c m : go_V} {nw nw' x : Int32} (h : LL c m nw) (hn : nw.toInt ≤ nw'.toInt) {i t : Nat} (hi : i < 12) (ht : t < 20) (h0 : 0 ≤ x.toInt) (h1 : x.toInt ≤ nw'.toInt) : LL (u2 c (48 + i) t x) (u2 m 114 (20 * i + t) x) nw' := by
  intro a b ha hb
  by_cases e : a = i ∧ b = t
  · obtain ⟨rfl, rfl⟩ := e
    rw [u2_s, u2_s]
    exact Or.inr ⟨rfl, h0, h1⟩
  · rw [u2_o (by omega), u2_o (by omega)]
    rcases h a b ha hb with h2 | ⟨h2, h3, h4⟩
    · exact Or.inl h2
    · exact Or.inr ⟨h2, h3, by omega⟩
/-! the class's own numbers -/
def Cv (c : go_V) (tc ic uc sc : Nat) : Prop :=
  (c 0 4 = nI tc ∧ c 0 8 = nI ic ∧ c 0 10 = nI uc ∧ c 0 6 = nI sc) ∧ (tc ≤ 20 ∧ ic ≤ 12 ∧ uc ≤ 40 ∧ sc ≤ tc) ∧ (0 ≤ (c 0 2).toInt ∧ (c 0 2).toInt ≤ 999999) ∧ (0 ≤ (c 0 1).toInt ∧ (c 0 1).toInt ≤ 9)
def Tg (c : go_V) (tc : Nat) : Prop := ∀ t, t < tc → (0 ≤ (c (16 + t) 2).toInt ∧ (c (16 + t) 2).toInt ≤ 9) ∧ (0 ≤ (c (16 + t) 3).toInt ∧ (c (16 + t) 3).toInt ≤ 100000) ∧ (c (16 + t) 0 = 2 → 1 ≤ (c (16 + t) 1).toInt ∧ (c (16 + t) 1).toInt ≤ 100000)
def In (c : go_V) (nw : Int32) : Prop := ∀ i, i < 12 → (0 ≤ (c (36 + i) 1).toInt ∧ (c (36 + i) 1).toInt ≤ 9) ∧ (0 ≤ (c (36 + i) 2).toInt ∧ (c (36 + i) 2).toInt ≤ 10000) ∧ 0 ≤ (c (36 + i) 3).toInt ∧ (c (36 + i) 3).toInt ≤ nw.toInt
def Un (c : go_V) (uc : Nat) : Prop := ∀ u, u < 40 → (c (60 + u) 1 = 0 → c (60 + u) 2 = -1) ∧ (uc ≤ u → c (60 + u) 1 = 0 ∧ c (60 + u) 2 = -1 ∧ c (60 + u) 3 = -1)
/-- the silences: their triggers' numbers s, the shortest first, of the same the lesser number first; all of them -/
def Si (c : go_V) (tc sc : Nat) (s : Nat → Nat) : Prop :=
  (∀ j, j < sc → c 13 j = nI (s j) ∧ s j < tc ∧ c (16 + s j) 0 = 2) ∧
  (∀ j, j + 1 < sc → (c (16 + s j) 1).toInt < (c (16 + s (j + 1)) 1).toInt ∨ ((c (16 + s j) 1).toInt = (c (16 + s (j + 1)) 1).toInt ∧ s j < s (j + 1))) ∧
  (∀ t, t < tc → c (16 + t) 0 = 2 → ∃ j, j < sc ∧ s j = t)
def Rw (c : go_V) : Prop := ∀ a b, a < 10 → b < 8 → 0 ≤ (c (2 + a) b).toInt ∧ (c (2 + a) b).toInt ≤ 30
def KK (c : go_V) (tc ic uc sc : Nat) (s : Nat → Nat) : Prop := Cv c tc ic uc sc ∧ Tg c tc ∧ In c (c 0 2) ∧ Un c uc ∧ Si c tc sc s ∧ Rw c
theorem Rw.cong {c c' : go_V} (h : Rw c) (hc : ∀ a b, a < 10 → b < 8 → c' (2 + a) b = c (2 + a) b) : Rw c' := by
  intro a b ha hb
  rw [hc a b ha hb]
  exact h a b ha hb
theorem Cv.cong {c c' : go_V} {tc ic uc sc : Nat} (h : Cv c tc ic uc sc) (hc : ∀ j, (j < 11 → c' 0 j = c 0 j)) : Cv c' tc ic uc sc := by
  unfold Cv at h ⊢
  rw [hc 4 (by omega), hc 8 (by omega), hc 10 (by omega), hc 6 (by omega), hc 2 (by omega), hc 1 (by omega)]
  exact h
theorem Tg.cong {c c' : go_V} {tc : Nat} (h : Tg c tc) (hc : ∀ t j, t < tc → j < 4 → c' (16 + t) j = c (16 + t) j) : Tg c' tc := by
  intro t ht
  rw [hc t 2 ht (by omega), hc t 3 ht (by omega), hc t 0 ht (by omega), hc t 1 ht (by omega)]
  exact h t ht
theorem In.cong {c c' : go_V} {nw nw' : Int32} (h : In c nw) (hn : nw.toInt ≤ nw'.toInt) (hc : ∀ i j, i < 12 → 1 ≤ j → j ≤ 3 → c' (36 + i) j = c (36 + i) j) : In c' nw' := by
  intro i hi
  rw [hc i 1 hi (by omega) (by omega), hc i 2 hi (by omega) (by omega), hc i 3 hi (by omega) (by omega)]
  have := h i hi
  omega
theorem Un.cong {c c' : go_V} {uc : Nat} (h : Un c uc) (hc : ∀ u j, u < 40 → 1 ≤ j → j ≤ 3 → c' (60 + u) j = c (60 + u) j) : Un c' uc := by
  intro u hu
  rw [hc u 1 hu (by omega) (by omega), hc u 2 hu (by omega) (by omega), hc u 3 hu (by omega) (by omega)]
  exact h u hu
theorem Si.cong {c c' : go_V} {tc sc : Nat} {s : Nat → Nat} (h : Si c tc sc s) (hc : ∀ j, c' 13 j = c 13 j) (hd : ∀ t j, t < tc → j < 2 → c' (16 + t) j = c (16 + t) j) : Si c' tc sc s := by
  obtain ⟨h1, h2, h3⟩ := h
  refine ⟨fun j hj => ?_, fun j hj => ?_, fun t ht2 hk => ?_⟩
  · have h4 := h1 j hj
    rw [hc, hd _ _ h4.2.1 (by omega)]
    exact h4
  · rw [hd _ _ (h1 j (by omega)).2.1 (by omega), hd _ _ (h1 (j + 1) hj).2.1 (by omega)]
    exact h2 j hj
  · rw [hd _ _ ht2 (by omega)] at hk
    exact h3 t ht2 hk
/-- the places that the class's own numbers are told by -/
def NK (k j : Nat) : Prop := (k = 0 ∧ j < 11) ∨ (2 ≤ k ∧ k < 12) ∨ k = 13 ∨ (16 ≤ k ∧ k < 36 ∧ j < 4) ∨ (36 ≤ k ∧ k < 48 ∧ 1 ≤ j ∧ j ≤ 3) ∨ (60 ≤ k ∧ k < 100 ∧ 1 ≤ j ∧ j ≤ 3)
theorem KK.cong {c c' : go_V} {tc ic uc sc : Nat} {s : Nat → Nat} (h : KK c tc ic uc sc s) (hc : ∀ k j, NK k j → c' k j = c k j) : KK c' tc ic uc sc s := by
  obtain ⟨h1, h2, h3, h4, h5, h6⟩ := h
  have ht : tc ≤ 20 := h1.2.1.1
  refine ⟨h1.cong (fun j hj => hc _ _ (by unfold NK; omega)), h2.cong (fun t j ht hj => hc _ _ (by unfold NK; omega)), ?_, h4.cong (fun u j hu hj hj2 => hc _ _ (by unfold NK; omega)), h5.cong (fun j => hc _ _ (by unfold NK; omega)) (fun t j ht hj => hc _ _ (by unfold NK; omega)), h6.cong (fun a b ha hb => hc _ _ (by unfold NK; omega))⟩
  rw [hc 0 2 (by unfold NK; omega)]
  exact h3.cong (Int.le_refl _) (fun i j hi hj hj2 => hc _ _ (by unfold NK; omega))
def St (c m : go_V) : Prop := ∃ tc ic uc sc s, RR uc c m ∧ LL c m (c 0 2) ∧ c 0 2 = m 100 1 ∧ KK c tc ic uc sc s
theorem St.cong {c m c' m' : go_V} (h : St c m) (hc : ∀ k j, k < 100 → c' k j = c k j) (hm : ∀ k j, 100 ≤ k → k < 119 → ¬ (k = 100 ∧ j = 0) → m' k j = m k j) : St c' m' := by
  obtain ⟨tc, ic, uc, sc, s, h1, h2, h3, h4⟩ := h
  refine ⟨tc, ic, uc, sc, s, h1.cong hc (fun k j hk hk2 hk3 => hm k j hk hk2 (by omega)), ?_, ?_, h4.cong (fun k j hk => hc _ _ (by unfold NK at hk; omega))⟩
  · rw [hc 0 2 (by omega)]
    exact h2.cong (fun k j hk hk2 => hc _ _ (by omega)) (fun j => hm _ _ (by omega) (by omega) (by omega))
  · rw [hc 0 2 (by omega), hm 100 1 (by omega) (by omega) (by omega)]
    exact h3
/-- what an op of the law does: the class by its helper in c, the reference in m -/
def OpS (r : Bool) (fL fM : go_V → Option go_R) : Prop := ∀ (c : go_V) (tc ic uc sc : Nat) (s : Nat → Nat), KK c tc ic uc sc s →
  ∃ (k : Int32) (c' : go_V), fL c = some (0, k, 0, c') ∧ (∀ a b, 100 ≤ a → a < 119 → c' a b = c a b) ∧
    ∀ m, RR uc c m → LL c m (c 0 2) → c 0 2 = m 100 1 → ∃ (x : Int32) (z : Nat) (m' : go_V), fM m = some (0, x, z, m') ∧ (∀ a b, a < 100 ∨ a = 119 → m' a b = m a b) ∧ m' 100 0 = k ∧ (r = true → k = 0 → c' 119 0 = x) ∧ St c' m'
theorem OpS.one {r : Bool} {fL fM : go_V → Option go_R} (h : OpS r fL fM) {v : go_V} (hv : St v v) : ∃ (k x : Int32) (z : Nat) (v1 v2 : go_V), fL v = some (0, k, 0, v1) ∧ fM v1 = some (0, x, z, v2) ∧ v2 100 0 = k ∧ (r = true → k = 0 → v2 119 0 = x) ∧ St v2 v2 := by
  obtain ⟨tc, ic, uc, sc, s, h1, h2, h3, h4⟩ := hv
  obtain ⟨k, c', e1, e2, e3⟩ := h v tc ic uc sc s h4
  obtain ⟨x, z, m', e4, e5, e6, e7, e8⟩ := e3 c' (h1.cong (fun _ _ _ => rfl) (fun a b ha hb _ => e2 a b ha hb)) (h2.cong (fun _ _ _ _ => rfl) (fun j => e2 _ _ (by omega) (by omega))) (by rw [e2 _ _ (by omega) (by omega)]; exact h3)
  refine ⟨k, x, z, c', m', e1, e4, e6, fun hr hk => ?_, e8.cong (fun a b ha => e5 a b (Or.inl ha)) (fun _ _ _ _ _ => rfl)⟩
  rw [e5 _ _ (Or.inr rfl)]
  exact e7 hr hk
/-- nothing changes: an exception of kind k -/
theorem op_err {r : Bool} {fL fM : go_V → Option go_R} {c : go_V} {tc ic uc sc : Nat} {s : Nat → Nat} (hK : KK c tc ic uc sc s) {k : Int32} (hk : ¬ k = 0) (h1 : fL c = some (0, k, 0, c)) (h2 : ∀ m, RR uc c m → c 0 2 = m 100 1 → ∃ x z, fM m = some (0, x, z, u2 m 100 0 k)) :
  ∃ (k : Int32) (c' : go_V), fL c = some (0, k, 0, c') ∧ (∀ a b, 100 ≤ a → a < 119 → c' a b = c a b) ∧
    ∀ m, RR uc c m → LL c m (c 0 2) → c 0 2 = m 100 1 → ∃ (x : Int32) (z : Nat) (m' : go_V), fM m = some (0, x, z, m') ∧ (∀ a b, a < 100 ∨ a = 119 → m' a b = m a b) ∧ m' 100 0 = k ∧ (r = true → k = 0 → c' 119 0 = x) ∧ St c' m' := by
  refine ⟨k, c, h1, fun _ _ _ _ => rfl, fun m hm hl hn => ?_⟩
  obtain ⟨x, z, e⟩ := h2 m hm hn
  refine ⟨x, z, _, e, fun a b hab => u2_o (by omega), u2_s, fun _ h0 => absurd h0 hk, ?_⟩
  exact (show St c m from ⟨tc, ic, uc, sc, s, hm, hl, hn, hK⟩).cong (fun _ _ _ => rfl) (fun a b ha hb hab => u2_o (by omega))
/-- nothing changes, a number comes back -/
theorem op_get {r : Bool} {fL fM : go_V → Option go_R} {c : go_V} {tc ic uc sc : Nat} {s : Nat → Nat} (hK : KK c tc ic uc sc s) (y : Int32) (h1 : fL c = some (0, 0, 0, u2 c 119 0 y)) (h2 : ∀ m, RR uc c m → c 0 2 = m 100 1 → ∃ z, fM m = some (0, y, z, u2 m 100 0 0)) :
  ∃ (k : Int32) (c' : go_V), fL c = some (0, k, 0, c') ∧ (∀ a b, 100 ≤ a → a < 119 → c' a b = c a b) ∧
    ∀ m, RR uc c m → LL c m (c 0 2) → c 0 2 = m 100 1 → ∃ (x : Int32) (z : Nat) (m' : go_V), fM m = some (0, x, z, m') ∧ (∀ a b, a < 100 ∨ a = 119 → m' a b = m a b) ∧ m' 100 0 = k ∧ (r = true → k = 0 → c' 119 0 = x) ∧ St c' m' := by
  refine ⟨0, _, h1, fun a b ha hb => u2_o (by omega), fun m hm hl hn => ?_⟩
  obtain ⟨z, e⟩ := h2 m hm hn
  refine ⟨y, z, _, e, fun a b hab => u2_o (by omega), u2_s, fun _ h0 => u2_s, ?_⟩
  exact (show St c m from ⟨tc, ic, uc, sc, s, hm, hl, hn, hK⟩).cong (fun a b ha => u2_o (by omega)) (fun a b ha hb hab => u2_o (by omega))
