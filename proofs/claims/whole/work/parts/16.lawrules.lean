/-! RULES OF THE LAW'S OWN BODY: its script, its end -/
def go_ExL (b L : Nat) (xs : Nat → Int32) : State → (Nat → Prop) → Prop := fun s A => (∀ q, A q → s.heap.size ≤ q) ∧ va_X b L xs s s.heap ∧ b < s.heap.size
def go_EnL (b : Nat) : go_En := fun below args s _ t => args = #[Value.ref b] → lw_Z below #[Value.ref b] s t
abbrev M_L_law : go_M := (c_L_law, 7, some .boolean, RL, [], room_1)
section GoLaw
variable {l : Launch} {G : go_G} {ad : Nat → Nat} {v : go_V} {lv : List (Nat × Value)} {pc : Nat} {st : List Value} {cells slots b L : Nat} {xs : Nat → Int32}
theorem go_slen (hd : decode c_L_law pc = .ok (.arraylength, 1)) (kk : Go l G M_L_law (go_ExL b L xs) (go_EnL b) ad v lv (pc + 1) (.int (Int32.ofNat L) :: st) cells slots) : Go l G M_L_law (go_ExL b L xs) (go_EnL b) ad v lv pc (.ref b :: st) cells slots := fun p e s m args below meth c A H locs ls C =>
  va_slen C.1.1 C.1.2.1 C.2.1.2.1 C.2.1.2.2 (fun q => absurd (C.2.1.1 _ q) (Nat.not_le.mpr C.2.1.2.2)) C.2.2.2.2.2.2.1 hd (kk p e s m args below meth c A H locs ls C)
theorem go_sld {x : Int32} (hd : decode c_L_law pc = .ok (.iaload, 1)) (hi : go_in x L = true) (kk : Go l G M_L_law (go_ExL b L xs) (go_EnL b) ad v lv (pc + 1) (.int (xs x.toNatClampNeg) :: st) cells slots) : Go l G M_L_law (go_ExL b L xs) (go_EnL b) ad v lv pc (.int x :: .ref b :: st) cells slots := fun p e s m args below meth c A H locs ls C =>
  va_sld C.1.1 C.1.2.1 C.2.1.2.1 C.2.1.2.2 (fun q => absurd (C.2.1.1 _ q) (Nat.not_le.mpr C.2.1.2.2)) C.2.2.2.2.2.2.1 (go_in_vp hi) hd (kk p e s m args below meth c A H locs ls C)
theorem go_lend (hd : decode c_L_law pc = .ok (.ireturn, 1)) (hc : cells ≤ 621509) (hs : slots ≤ 7231577) : Go l G M_L_law (go_ExL b L xs) (go_EnL b) ad v lv pc [.int 1] cells slots := by
  intro p e s m args below meth c A H locs ls C
  by_cases ha : args = #[Value.ref b]
  · subst ha
    refine va_forget (fun q hq => C.2.1.1 _ (C.2.2.2.2.2.2.1.2.2 q hq)) ?_
    refine W.widen hc hs ?_
    intro T hT X
    obtain ⟨t, h1, h2⟩ := lw_ret (b := b) C.1.1 C.1.2.1 C.1.2.2.2.1 C.1.2.2.2.2.2.2.1 hd T hT X
    exact ⟨t, h1, fun _ => h2⟩
  · exact fun T hT X => ⟨_, Steps.refl _, fun q => absurd q ha⟩
end GoLaw
