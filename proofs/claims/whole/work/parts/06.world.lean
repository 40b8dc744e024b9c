/-! THE WORLD BEHIND THE CONSTRUCTORS: which key is what, and the cells by v.
keys: 0 the class, 1 rows, 2..11 its rows, 12 triggers, 13 silences, 14 incidents, 15 units, 16.. a trigger, 36.. an incident, 48.. its actedAt, 60.. a unit; 100 the reference, 101..118 its arrays; 119 out -/
abbrev go_V : Type := Nat → Nat → Int32
def u2 (v : go_V) (k j : Nat) (x : Int32) : go_V := fun a b => if a = k ∧ b = j then x else v a b
theorem u2_k {v : go_V} {k j : Nat} {x : Int32} : u2 v k j x k = upd (v k) j x := by
  funext b
  simp [u2, upd]
theorem u2_ne {v : go_V} {k j a : Nat} {x : Int32} (h : ¬ a = k) : u2 v k j x a = v a := by
  funext b
  simp [u2, h]
def go_cls (k : Nat) : Nat :=
  if k < 12 then (if k = 0 then 3 else if k = 1 then 16 else 10) else if k < 16 then (if k = 12 then 13 else if k = 13 then 10 else if k = 14 then 14 else 15)
  else if k < 36 then 1 else if k < 48 then 0 else if k < 60 then 10 else if k < 100 then 2 else if k = 100 then 4 else if k = 107 then 11 else if k < 119 then 10 else if k = 119 then 12 else 99
def go_len (k : Nat) : Nat :=
  if k < 12 then (if k = 1 then 10 else 8) else if k < 16 then (if k = 14 then 12 else if k = 15 then 40 else 20) else if k < 60 then 20
  else if k = 101 then 80 else if k < 107 then 20 else if k < 114 then 12 else if k = 114 then 240 else if k < 119 then 40 else 1
def go_nf (c : Nat) : Nat := match c with | 0 => 8 | 1 => 5 | 2 => 4 | 3 => 14 | _ => 27
def go_isr (c j : Nat) : Bool := match c with
  | 0 => Nat.beq j 7
  | 1 => false
  | 2 => false
  | 3 => Nat.beq j 0 || Nat.beq j 3 || Nat.beq j 5 || Nat.beq j 7 || Nat.beq j 9
  | _ => Nat.beq j 3 || (Nat.ble 5 j && Nat.ble j 9) || (Nat.ble 11 j && Nat.ble j 18) || (Nat.ble 20 j && Nat.ble j 23)
def go_ref (k j : Nat) : Nat :=
  if k = 0 then (match j with | 0 => 1 | 3 => 12 | 5 => 13 | 7 => 14 | _ => 15)
  else if k = 100 then (if j = 3 then 101 else if j < 10 then 97 + j else if j < 19 then 96 + j else 95 + j)
  else k + 12
def go_elt (k i : Nat) : Nat := if k = 1 then 2 + i else if k = 12 then 16 + i else if k = 14 then 36 + i else 60 + i
def go_fs (c : Nat) (ad : Nat → Nat) (v : go_V) (k : Nat) : List Value := (List.range (go_nf c)).map (fun j => match go_isr c j with | true => Value.ref (ad (go_ref k j)) | false => Value.int (v k j))
def cel (cA : Nat → ClassId) (ad : Nat → Nat) (v : go_V) (k : Nat) : va_E := match go_cls k with
  | 10 => .inl (cA 0, go_len k, .inl (v k))
  | 11 => .inl (cA 1, go_len k, .inl (v k))
  | 12 => .inl (cA 2, go_len k, .inr (.inl (fun j => (v k j).toInt64)))
  | 13 => .inl (cA 3, go_len k, .inr (.inr (.inr (.inr (fun j => some (ad (go_elt k j)))))))
  | 14 => .inl (cA 4, go_len k, .inr (.inr (.inr (.inr (fun j => some (ad (go_elt k j)))))))
  | 15 => .inl (cA 5, go_len k, .inr (.inr (.inr (.inr (fun j => some (ad (go_elt k j)))))))
  | 16 => .inl (cA 6, go_len k, .inr (.inr (.inr (.inr (fun j => some (ad (go_elt k j)))))))
  | c => .inr (c, go_fs c ad v k)
theorem go_cls_lt {k : Nat} (h : ¬ go_cls k = 99) : k < 120 := by
  unfold go_cls at h
  repeat' split at h
  all_goals omega
theorem go_ltc {k c : Nat} (h : go_cls k = c) (hc : c < 17) : k < 120 := go_cls_lt (by omega)
section Cel
variable {cA : Nat → ClassId} {ad : Nat → Nat} {v : go_V} {k : Nat}
theorem cel_obj {c : Nat} (h : go_cls k = c) (hc : c < 5) : cel cA ad v k = .inr (c, go_fs c ad v k) := by
  unfold cel
  rw [h]
  rcases (show c = 0 ∨ c = 1 ∨ c = 2 ∨ c = 3 ∨ c = 4 by omega) with rfl | rfl | rfl | rfl | rfl <;> rfl
theorem cel_i (h : go_cls k = 10) : cel cA ad v k = .inl (cA 0, go_len k, .inl (v k)) := by
  unfold cel
  rw [h]
  rfl
theorem cel_z (h : go_cls k = 11) : cel cA ad v k = .inl (cA 1, go_len k, .inl (v k)) := by
  unfold cel
  rw [h]
  rfl
theorem cel_l (h : go_cls k = 12) : cel cA ad v k = .inl (cA 2, go_len k, .inr (.inl (fun j => (v k j).toInt64))) := by
  unfold cel
  rw [h]
  rfl
theorem cel_q {c t : Nat} (h : go_cls k = c) (hc : 13 ≤ c ∧ c ≤ 16) (ht : c = t + 10) : cel cA ad v k = .inl (cA t, go_len k, .inr (.inr (.inr (.inr (fun j => some (ad (go_elt k j))))))) := by
  unfold cel
  rw [h]
  rcases (show c = 13 ∨ c = 14 ∨ c = 15 ∨ c = 16 by omega) with rfl | rfl | rfl | rfl
  · obtain rfl : t = 3 := by omega
    rfl
  · obtain rfl : t = 4 := by omega
    rfl
  · obtain rfl : t = 5 := by omega
    rfl
  · obtain rfl : t = 6 := by omega
    rfl
theorem cel_ne {j a : Nat} {x : Int32} (h : ¬ a = k) : cel cA ad (u2 v k j x) a = cel cA ad v a := by
  unfold cel go_fs
  rw [u2_ne h]
theorem go_fs_get {c j : Nat} (hj : j < go_nf c) (hr : go_isr c j = false) : (go_fs c ad v k)[j]? = some (.int (v k j)) := by
  unfold go_fs
  rw [List.getElem?_map, List.getElem?_range hj, Option.map_some, hr]
theorem go_fs_ref {c j : Nat} (hj : j < go_nf c) (hr : go_isr c j = true) : (go_fs c ad v k)[j]? = some (.ref (ad (go_ref k j))) := by
  unfold go_fs
  rw [List.getElem?_map, List.getElem?_range hj, Option.map_some, hr]
theorem go_fs_len {c : Nat} : (go_fs c ad v k).length = go_nf c := by simp [go_fs]
theorem go_fs_set {c j : Nat} {x : Int32} (hj : j < go_nf c) (hr : go_isr c j = false) : (go_fs c ad v k).set j (.int x) = go_fs c ad (u2 v k j x) k := by
  apply List.ext_getElem?
  intro i
  by_cases hi : i < go_nf c
  · rw [List.getElem?_set, go_fs_len]
    by_cases e : j = i
    · subst e
      rw [if_pos rfl, if_pos hi, go_fs_get hi hr]
      simp [u2]
    · rw [if_neg e]
      have e2 : ¬ i = j := fun q => e q.symm
      unfold go_fs
      rw [List.getElem?_map, List.getElem?_map, List.getElem?_range hi]
      simp [u2, e2]
  · rw [List.getElem?_eq_none (by rw [List.length_set, go_fs_len]; omega), List.getElem?_eq_none (by rw [go_fs_len]; omega)]
theorem cel_put {c j : Nat} {x : Int32} (h : go_cls k = c) (hc : c < 5) (hj : j < go_nf c) (hr : go_isr c j = false) : va_up (cel cA ad v) k (.inr (c, (go_fs c ad v k).set j (.int x))) = cel cA ad (u2 v k j x) := by
  funext a
  by_cases e : a = k
  · subst e
    rw [va_up_self, cel_obj h hc, go_fs_set hj hr]
  · rw [va_up_ne _ _ e, cel_ne e]
theorem cel_ist {i : Nat} {x : Int32} (h : go_cls k = 10) : va_up (cel cA ad v) k (.inl (cA 0, go_len k, .inl (upd (v k) i x))) = cel cA ad (u2 v k i x) := by
  funext a
  by_cases e : a = k
  · subst e
    rw [va_up_self, cel_i h, u2_k]
  · rw [va_up_ne _ _ e, cel_ne e]
theorem cel_zst {i : Nat} {x : Int32} (h : go_cls k = 11) : va_up (cel cA ad v) k (.inl (cA 1, go_len k, .inl (upd (v k) i x))) = cel cA ad (u2 v k i x) := by
  funext a
  by_cases e : a = k
  · subst e
    rw [va_up_self, cel_z h, u2_k]
  · rw [va_up_ne _ _ e, cel_ne e]
theorem cel_lst {i : Nat} {x : Int32} (h : go_cls k = 12) : va_up (cel cA ad v) k (.inl (cA 2, go_len k, .inr (.inl (vp_updL (fun j => (v k j).toInt64) i x.toInt64)))) = cel cA ad (u2 v k i x) := by
  funext a
  by_cases e : a = k
  · subst e
    rw [va_up_self, cel_l h]
    congr 5
    funext j
    unfold vp_updL
    by_cases e2 : j = i <;> simp [u2, e2]
  · rw [va_up_ne _ _ e, cel_ne e]
end Cel
