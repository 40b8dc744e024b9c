/-! words for the constructors -/
theorem w_62 : Cond.methodLink RT 1 Lib.objectInit ∈ go_TT := go_tt 62 (by decide +kernel) rfl
theorem w_48 : Cond.instanceMethod Lib.objectInit ∈ go_TT := go_tt 48 (by decide +kernel) rfl
theorem w_49 : Cond.code Lib.objectInit ⟨#[0xb1]⟩ 1 none ∈ go_TT := go_tt 49 (by decide +kernel) rfl
theorem w_118 : Cond.methodLink RU 3 Lib.objectInit ∈ go_TT := go_tt 118 (by decide +kernel) rfl
theorem w_95 : Cond.fieldLink RI 9 RI "actedAt" "[I" ∈ go_TT := go_tt 95 (by decide +kernel) rfl
theorem w_82 : Cond.arrayClass .int ∈ go_TT := go_tt 82 (by decide +kernel) rfl
theorem fl_I_9 : go_fl RI 9 0 7 := ⟨RI, TI, 8, rfl, by decide, rfl, by decide, in_I, rfl, Or.inl w_95⟩
theorem w_87 : Cond.methodLink RI 3 Lib.objectInit ∈ go_TT := go_tt 87 (by decide +kernel) rfl
