/-! THE LAYER: a world by keys, a walk that shows no machine. Key k lies at ad k and holds cell k; what varies is v (key, place) alone. -/
def ww (N : Nat) (ad : Nat → Nat) (cell : Nat → va_E) : va_W := (List.range N).map (fun k => (ad k, cell k))
theorem ww_len {N : Nat} {ad : Nat → Nat} {cell : Nat → va_E} : (ww N ad cell).length = N := by simp [ww]
theorem ww_get {N : Nat} {ad : Nat → Nat} {cell : Nat → va_E} {k : Nat} (h : k < N) : (ww N ad cell)[k]? = some (ad k, cell k) := by
  simp only [ww, List.getElem?_map, List.getElem?_range h, Option.map_some]
theorem ww_set {N : Nat} {ad : Nat → Nat} {cell : Nat → va_E} {k : Nat} (h : k < N) (e : va_E) : (ww N ad cell).set k (ad k, e) = ww N ad (va_up cell k e) := by
  apply List.ext_getElem?
  intro j
  by_cases hj : j < N
  · rw [List.getElem?_set, ww_get hj, ww_get hj, ww_len]
    by_cases hk : k = j
    · subst hk
      simp [h, va_up]
    · have : ¬ j = k := fun q => hk q.symm
      simp [hk, va_up, this]
  · rw [List.getElem?_eq_none (by rw [List.length_set, ww_len]; omega), List.getElem?_eq_none (by rw [ww_len]; omega)]
theorem ww_key {N : Nat} {ad : Nat → Nat} {cell : Nat → va_E} {i : Nat} {q : Nat × va_E} (hq : (ww N ad cell)[i]? = some q) : i < N ∧ q = (ad i, cell i) := by
  by_cases hi : i < N
  · rw [ww_get hi] at hq
    exact ⟨hi, (Option.some.inj hq).symm⟩
  · rw [List.getElem?_eq_none (by rw [ww_len]; omega)] at hq
    cases hq
theorem ww_D {A : Nat → Prop} {N : Nat} {ad : Nat → Nat} {cell cell' : Nat → va_E} (h : va_D A (ww N ad cell)) : va_D A (ww N ad cell') := by
  refine ⟨fun i j p q hp hq e => ?_, fun i q hq => ?_⟩
  · obtain ⟨hi, rfl⟩ := ww_key hp
    obtain ⟨hj, rfl⟩ := ww_key hq
    exact h.1 i j _ _ (ww_get hi) (ww_get hj) e
  · obtain ⟨hi, rfl⟩ := ww_key hq
    exact (h.2 i (ad i, cell i) (ww_get hi) : A (ad i))
theorem ww_A {N : Nat} {ad : Nat → Nat} {cell cell' : Nat → va_E} {sz q : Nat} (h : va_A (ww N ad cell) sz q) : va_A (ww N ad cell') sz q := by
  rcases h with ⟨k, e, hk⟩ | h
  · obtain ⟨hi, he⟩ := ww_key hk
    cases he
    exact Or.inl ⟨k, cell' k, ww_get hi⟩
  · exact Or.inr h
theorem ww_Aeq {N : Nat} {ad : Nat → Nat} {cell cell' : Nat → va_E} {sz : Nat} : va_A (ww N ad cell) sz = va_A (ww N ad cell') sz := funext fun q => propext ⟨ww_A, ww_A⟩
theorem go_beq (a b : Nat) : Nat.beq a b = (a == b) := by
  cases h : Nat.beq a b with
  | true =>
    have e := Nat.eq_of_beq_eq_true h
    subst e
    simp
  | false =>
    have e := Nat.ne_of_beq_eq_false h
    simp [e]
/-! the locals: what stands at a place, and a store -/
def go_lk : List (Nat × Value) → Nat → Option Value
  | [], _ => none
  | (j, w) :: r, i => match Nat.beq j i with
    | true => some w
    | false => go_lk r i
def go_dl : List (Nat × Value) → Nat → List (Nat × Value)
  | [], _ => []
  | (j, w) :: r, i => match Nat.beq j i with
    | true => go_dl r i
    | false => match Nat.beq (j + 1) i && w.category == 2 with
      | true => go_dl r i
      | false => (j, w) :: go_dl r i
def go_st : List (Nat × Value) → Nat → Value → List (Nat × Value)
  | [], i, v => [(i, v)]
  | (j, w) :: r, i, v => match Nat.beq j i with
    | true => (i, v) :: go_dl r i
    | false => match Nat.beq (j + 1) i && w.category == 2 with
      | true => go_st r i v
      | false => (j, w) :: go_st r i v
theorem go_lk_mem {lv : List (Nat × Value)} {i : Nat} {v : Value} (h : go_lk lv i = some v) : (i, v) ∈ lv := by
  induction lv with
  | nil => cases h
  | cons q r ih =>
    obtain ⟨j, w⟩ := q
    simp only [go_lk] at h
    cases hb : Nat.beq j i with
    | true =>
      rw [hb] at h
      have e := Nat.eq_of_beq_eq_true hb
      subst e
      cases h
      exact List.mem_cons_self
    | false =>
      rw [hb] at h
      exact List.mem_cons_of_mem _ (ih h)
theorem go_dl_mem {lv : List (Nat × Value)} {i : Nat} {q : Nat × Value} (h : q ∈ go_dl lv i) : q ∈ lv.filter (fun q => !(q.1 == i) && !(q.1 + 1 == i && q.2.category == 2)) := by
  induction lv with
  | nil => cases h
  | cons z r ih =>
    obtain ⟨j, w⟩ := z
    simp only [go_dl] at h
    cases hb : Nat.beq j i with
    | true =>
      rw [hb] at h
      have := ih h
      rw [List.filter_cons]
      split
      · exact List.mem_cons_of_mem _ this
      · exact this
    | false =>
      rw [hb] at h
      cases hc : (Nat.beq (j + 1) i && w.category == 2) with
      | true =>
        rw [hc] at h
        have := ih h
        rw [List.filter_cons]
        split
        · exact List.mem_cons_of_mem _ this
        · exact this
      | false =>
        rw [hc] at h
        have e1 : (j == i) = false := by rw [← go_beq]; exact hb
        have e2 : (j + 1 == i && w.category == 2) = false := by rw [← go_beq]; exact hc
        rw [List.filter_cons, if_pos (by simp only [e1, e2]; rfl)]
        rcases List.mem_cons.mp h with rfl | h
        · exact List.mem_cons_self
        · exact List.mem_cons_of_mem _ (ih h)
theorem go_st_mem {lv : List (Nat × Value)} {i : Nat} {v : Value} {q : Nat × Value} (h : q ∈ go_st lv i v) : q ∈ (i, v) :: lv.filter (fun q => !(q.1 == i) && !(q.1 + 1 == i && q.2.category == 2)) := by
  induction lv with
  | nil => exact h
  | cons z r ih =>
    obtain ⟨j, w⟩ := z
    simp only [go_st] at h
    cases hb : Nat.beq j i with
    | true =>
      rw [hb] at h
      rcases List.mem_cons.mp h with rfl | h
      · exact List.mem_cons_self
      · refine List.mem_cons_of_mem _ ?_
        have := go_dl_mem h
        rw [List.filter_cons]
        split
        · exact List.mem_cons_of_mem _ this
        · exact this
    | false =>
      rw [hb] at h
      cases hc : (Nat.beq (j + 1) i && w.category == 2) with
      | true =>
        rw [hc] at h
        rcases List.mem_cons.mp (ih h) with rfl | h
        · exact List.mem_cons_self
        · refine List.mem_cons_of_mem _ ?_
          rw [List.filter_cons]
          split
          · exact List.mem_cons_of_mem _ h
          · exact h
      | false =>
        rw [hc] at h
        have e1 : (j == i) = false := by rw [← go_beq]; exact hb
        have e2 : (j + 1 == i && w.category == 2) = false := by rw [← go_beq]; exact hc
        rw [List.filter_cons, if_pos (by simp only [e1, e2]; rfl)]
        rcases List.mem_cons.mp h with rfl | h
        · exact List.mem_cons_of_mem _ List.mem_cons_self
        · rcases List.mem_cons.mp (ih h) with rfl | h
          · exact List.mem_cons_self
          · exact List.mem_cons_of_mem _ (List.mem_cons_of_mem _ h)
theorem go_st_has {ls : Array Slot} {n i : Nat} {v : Value} {lv lv' : List (Nat × Value)} (h : lv_has ls n ((i, v) :: lv.filter (fun q => !(q.1 == i) && !(q.1 + 1 == i && q.2.category == 2)))) (e : go_st lv i v = lv') : lv_has ls n lv' :=
  ⟨h.1, h.2.1, fun q hq => h.2.2 q (go_st_mem (by rw [e]; exact hq))⟩
/-! the words: the good ones, and those of a nest and of casts -/
def go_TT : List Cond := lw_tbl.filter goodWord
def go_nk : Cond → Bool
  | .fieldLinkNest _ _ _ _ _ _ => true
  | .methodLinkNest _ _ _ _ => true
  | .castable _ _ => true
  | .declares _ => true
  | _ => false
def go_NW : List Cond := lw_tbl.filter go_nk
theorem go_tt {w : Cond} (i : Nat) (h : lw_tbl[i]? = some w) (hg : goodWord w = true) : w ∈ go_TT := List.mem_filter.mpr ⟨List.mem_of_getElem? h, hg⟩
theorem go_nw {w : Cond} (i : Nat) (h : lw_tbl[i]? = some w) (hg : go_nk w = true) : w ∈ go_NW := List.mem_filter.mpr ⟨List.mem_of_getElem? h, hg⟩
theorem go_nk_warm {w : Cond} {s U : State} (h : go_nk w = true) (hW : s.WarmedH U.vm) (hZ : va_Nw w s) : va_Nw w U := by
  cases w <;> first | exact va_Nw.warmF hW hZ | exact va_Nw.warmM hW hZ | exact va_Nw.warmC hW hZ | exact va_Nw.warmD hW hZ | cases h
theorem go_nk_tab {w : Cond} (h : go_nk w = true) : w.onTables = true := by
  cases w <;> first | rfl | cases h
theorem go_goodTT {ts : List Cond} (h : ∀ w ∈ go_TT, w ∈ ts) : GoodIn ts go_TT := fun w hw => ⟨h w hw, good_of_word (List.mem_filter.mp hw).2⟩
/-! what stays: the tables, the statics, the texts -/
abbrev go_G : Type := va_G × (Nat → ClassId) × Nat × Nat
abbrev go_tys (cA : Nat → ClassId) : List (ClassId × FieldType) := [(cA 0, .int), (cA 1, .boolean), (cA 2, .long), (cA 3, .object RT), (cA 4, .object RI), (cA 5, .object RU), (cA 6, .array .int)]
def go_least : Nat → Value := fun j => .int (match j with | 0 => 0 | 1 => 1 | 2 => 1 | _ => 0)
def go_great : Nat → Value := fun j => .int (match j with | 0 => 99 | 1 => 1000 | 2 => 100000 | _ => 9)
abbrev go_txt : List (String × Nat × String) := []
def go_K (G : go_G) (tx : List (String × Nat × String)) (nc : List (String × String)) (A : Nat → Prop) (U : State) : Prop :=
  va_K G.1 go_cl (go_tys G.2.1) U ∧ vx_Zq Bundle.tN "UNASSIGNED_STACK" Bundle.steD A U U.heap ∧ vx_Zq Bundle.tN "SUPPRESSED_SENTINEL" Bundle.listD A U U.heap ∧
  va_Z RS "LEAST_WHAT" "[I" (.ref G.2.2.1) A U U.heap ∧ va_T .int G.2.2.1 4 go_least A U U.heap ∧ va_Z RS "GREATEST_WHAT" "[I" (.ref G.2.2.2) A U U.heap ∧ va_T .int G.2.2.2 4 go_great A U U.heap ∧
  (∀ w ∈ go_NW, va_Nw w U) ∧ (∀ q ∈ tx, ∃ sa, vk_R q.1 q.2.1 q.2.2 sa U) ∧ ∀ q ∈ nc, va_Nc q.1 q.2 U
theorem go_K_to {G : go_G} {tx : List (String × Nat × String)} {nc : List (String × String)} {A B : Nat → Prop} {s U : State} (hK : go_K G tx nc A s) (hW : s.WarmedH U.vm) (hh : ∀ a : Nat, a < s.heap.size → ¬ A a → U.heap[a]? = s.heap[a]?) (hB : ∀ q, B q → A q) : go_K G tx nc B U := by
  obtain ⟨h1, h2, h3, h4, h5, h6, h7, h8, h9, h10⟩ := hK
  have al := hW.alike
  exact ⟨va_K.moved al h1, ((vx_Zq.moved al h2).kept hh).narrow hB, ((vx_Zq.moved al h3).kept hh).narrow hB, ((va_Z.moved al h4).kept hh).narrow hB, ((va_T.moved al h5).kept hh).narrow hB, ((va_Z.moved al h6).kept hh).narrow hB, ((va_T.moved al h7).kept hh).narrow hB,
    fun w hw => go_nk_warm (List.mem_filter.mp hw).2 hW (h8 w hw), fun q hq => (h9 q hq).imp fun sa h => vk_R.warm hW h, fun q hq => va_Nc.moved al (h10 q hq)⟩
