/-! words for the law's body -/
theorem w_179 : Cond.methodLink RL 84 y_L_row ∈ go_TT := go_tt 179 (by decide +kernel) rfl
theorem w_181 : Cond.codeWith y_L_row c_L_row 5 (some .int) [(0, 7, 10, 13), (0, 7, 14, 15)] ∈ go_TT := go_tt 181 (by decide +kernel) rfl
theorem w_28 : Cond.initialized RL ∈ go_TT := go_tt 28 (by decide +kernel) rfl
theorem cw_L_84 : Cond.methodLink RL 84 y_L_row ∈ go_TT ∧ Cond.codeWith y_L_row c_L_row 5 (some .int) [(0, 7, 10, 13), (0, 7, 14, 15)] ∈ go_TT ∧ Cond.initialized y_L_row.cls ∈ go_TT ∧ y_L_row.cls ≠ "java/lang/invoke/MethodHandle" ∧ y_L_row.cls ≠ "java/lang/invoke/VarHandle" ∧ (parseMethodDescriptor y_L_row.desc).map (fun d => d.parameters.length) = some 4 := ⟨w_179, w_181, w_28, by decide, by decide, by decide +kernel⟩
theorem w_180 : Cond.static y_L_row ∈ go_TT := go_tt 180 (by decide +kernel) rfl
theorem w_634 : Cond.methodLink RL 89 y_M_row ∈ go_TT := go_tt 634 (by decide +kernel) rfl
theorem w_637 : Cond.code y_M_row c_M_row 4 none ∈ go_TT := go_tt 637 (by decide +kernel) rfl
theorem cw_L_89 : go_wd RL 89 y_M_row c_M_row 4 none 3 := ⟨w_634, w_637, w_33, by decide, by decide, by decide +kernel⟩
theorem w_635 : Cond.instanceMethod y_M_row ∈ go_TT := go_tt 635 (by decide +kernel) rfl
theorem w_636 : Cond.selects RM y_M_row y_M_row ∈ go_TT := go_tt 636 (by decide +kernel) rfl
theorem w_630 : Cond.methodLink RL 90 y_M_thrown ∈ go_TT := go_tt 630 (by decide +kernel) rfl
theorem w_633 : Cond.code y_M_thrown c_M_thrown 1 (some .int) ∈ go_TT := go_tt 633 (by decide +kernel) rfl
theorem cw_L_90 : go_wd RL 90 y_M_thrown c_M_thrown 1 (some .int) 0 := ⟨w_630, w_633, w_33, by decide, by decide, by decide +kernel⟩
theorem w_631 : Cond.instanceMethod y_M_thrown ∈ go_TT := go_tt 631 (by decide +kernel) rfl
theorem w_632 : Cond.selects RM y_M_thrown y_M_thrown ∈ go_TT := go_tt 632 (by decide +kernel) rfl
theorem w_283 : Cond.methodLink RL 93 y_L_top ∈ go_TT := go_tt 283 (by decide +kernel) rfl
theorem w_285 : Cond.codeWith y_L_top c_L_top 3 (some .int) [(0, 5, 8, 13), (0, 5, 11, 21)] ∈ go_TT := go_tt 285 (by decide +kernel) rfl
theorem cw_L_93 : Cond.methodLink RL 93 y_L_top ∈ go_TT ∧ Cond.codeWith y_L_top c_L_top 3 (some .int) [(0, 5, 8, 13), (0, 5, 11, 21)] ∈ go_TT ∧ Cond.initialized y_L_top.cls ∈ go_TT ∧ y_L_top.cls ≠ "java/lang/invoke/MethodHandle" ∧ y_L_top.cls ≠ "java/lang/invoke/VarHandle" ∧ (parseMethodDescriptor y_L_top.desc).map (fun d => d.parameters.length) = some 2 := ⟨w_283, w_285, w_28, by decide, by decide, by decide +kernel⟩
theorem w_284 : Cond.static y_L_top ∈ go_TT := go_tt 284 (by decide +kernel) rfl
theorem w_645 : Cond.methodLink RL 96 y_M_top ∈ go_TT := go_tt 645 (by decide +kernel) rfl
theorem w_648 : Cond.code y_M_top c_M_top 4 none ∈ go_TT := go_tt 648 (by decide +kernel) rfl
theorem cw_L_96 : go_wd RL 96 y_M_top c_M_top 4 none 1 := ⟨w_645, w_648, w_33, by decide, by decide, by decide +kernel⟩
theorem w_646 : Cond.instanceMethod y_M_top ∈ go_TT := go_tt 646 (by decide +kernel) rfl
theorem w_647 : Cond.selects RM y_M_top y_M_top ∈ go_TT := go_tt 647 (by decide +kernel) rfl
theorem w_311 : Cond.methodLink RL 97 y_L_trigger ∈ go_TT := go_tt 311 (by decide +kernel) rfl
theorem w_313 : Cond.codeWith y_L_trigger c_L_trigger 7 (some .int) [(0, 14, 17, 13), (0, 14, 21, 15), (0, 14, 25, 27)] ∈ go_TT := go_tt 313 (by decide +kernel) rfl
theorem cw_L_97 : Cond.methodLink RL 97 y_L_trigger ∈ go_TT ∧ Cond.codeWith y_L_trigger c_L_trigger 7 (some .int) [(0, 14, 17, 13), (0, 14, 21, 15), (0, 14, 25, 27)] ∈ go_TT ∧ Cond.initialized y_L_trigger.cls ∈ go_TT ∧ y_L_trigger.cls ≠ "java/lang/invoke/MethodHandle" ∧ y_L_trigger.cls ≠ "java/lang/invoke/VarHandle" ∧ (parseMethodDescriptor y_L_trigger.desc).map (fun d => d.parameters.length) = some 6 := ⟨w_311, w_313, w_28, by decide, by decide, by decide +kernel⟩
theorem w_312 : Cond.static y_L_trigger ∈ go_TT := go_tt 312 (by decide +kernel) rfl
theorem w_649 : Cond.methodLink RL 100 y_M_trigger ∈ go_TT := go_tt 649 (by decide +kernel) rfl
theorem w_652 : Cond.code y_M_trigger c_M_trigger 7 (some .int) ∈ go_TT := go_tt 652 (by decide +kernel) rfl
theorem cw_L_100 : go_wd RL 100 y_M_trigger c_M_trigger 7 (some .int) 4 := ⟨w_649, w_652, w_33, by decide, by decide, by decide +kernel⟩
theorem w_650 : Cond.instanceMethod y_M_trigger ∈ go_TT := go_tt 650 (by decide +kernel) rfl
theorem w_651 : Cond.selects RM y_M_trigger y_M_trigger ∈ go_TT := go_tt 651 (by decide +kernel) rfl
theorem w_349 : Cond.methodLink RL 101 y_L_begin ∈ go_TT := go_tt 349 (by decide +kernel) rfl
theorem w_351 : Cond.codeWith y_L_begin c_L_begin 3 (some .int) [(0, 8, 11, 27)] ∈ go_TT := go_tt 351 (by decide +kernel) rfl
theorem cw_L_101 : Cond.methodLink RL 101 y_L_begin ∈ go_TT ∧ Cond.codeWith y_L_begin c_L_begin 3 (some .int) [(0, 8, 11, 27)] ∈ go_TT ∧ Cond.initialized y_L_begin.cls ∈ go_TT ∧ y_L_begin.cls ≠ "java/lang/invoke/MethodHandle" ∧ y_L_begin.cls ≠ "java/lang/invoke/VarHandle" ∧ (parseMethodDescriptor y_L_begin.desc).map (fun d => d.parameters.length) = some 2 := ⟨w_349, w_351, w_28, by decide, by decide, by decide +kernel⟩
theorem w_350 : Cond.static y_L_begin ∈ go_TT := go_tt 350 (by decide +kernel) rfl
theorem w_654 : Cond.methodLink RL 104 y_M_begin ∈ go_TT := go_tt 654 (by decide +kernel) rfl
theorem w_657 : Cond.code y_M_begin c_M_begin 1 (some .int) ∈ go_TT := go_tt 657 (by decide +kernel) rfl
theorem cw_L_104 : go_wd RL 104 y_M_begin c_M_begin 1 (some .int) 0 := ⟨w_654, w_657, w_33, by decide, by decide, by decide +kernel⟩
theorem w_655 : Cond.instanceMethod y_M_begin ∈ go_TT := go_tt 655 (by decide +kernel) rfl
theorem w_656 : Cond.selects RM y_M_begin y_M_begin ∈ go_TT := go_tt 656 (by decide +kernel) rfl
theorem w_357 : Cond.methodLink RL 105 y_L_close ∈ go_TT := go_tt 357 (by decide +kernel) rfl
theorem w_359 : Cond.codeWith y_L_close c_L_close 3 (some .int) [(0, 5, 8, 13), (0, 5, 11, 21)] ∈ go_TT := go_tt 359 (by decide +kernel) rfl
theorem cw_L_105 : Cond.methodLink RL 105 y_L_close ∈ go_TT ∧ Cond.codeWith y_L_close c_L_close 3 (some .int) [(0, 5, 8, 13), (0, 5, 11, 21)] ∈ go_TT ∧ Cond.initialized y_L_close.cls ∈ go_TT ∧ y_L_close.cls ≠ "java/lang/invoke/MethodHandle" ∧ y_L_close.cls ≠ "java/lang/invoke/VarHandle" ∧ (parseMethodDescriptor y_L_close.desc).map (fun d => d.parameters.length) = some 2 := ⟨w_357, w_359, w_28, by decide, by decide, by decide +kernel⟩
theorem w_358 : Cond.static y_L_close ∈ go_TT := go_tt 358 (by decide +kernel) rfl
theorem w_658 : Cond.methodLink RL 107 y_M_close ∈ go_TT := go_tt 658 (by decide +kernel) rfl
theorem w_661 : Cond.code y_M_close c_M_close 3 none ∈ go_TT := go_tt 661 (by decide +kernel) rfl
theorem cw_L_107 : go_wd RL 107 y_M_close c_M_close 3 none 1 := ⟨w_658, w_661, w_33, by decide, by decide, by decide +kernel⟩
theorem w_659 : Cond.instanceMethod y_M_close ∈ go_TT := go_tt 659 (by decide +kernel) rfl
theorem w_660 : Cond.selects RM y_M_close y_M_close ∈ go_TT := go_tt 660 (by decide +kernel) rfl
theorem w_377 : Cond.methodLink RL 108 y_L_tick ∈ go_TT := go_tt 377 (by decide +kernel) rfl
theorem w_379 : Cond.codeWith y_L_tick c_L_tick 4 (some .int) [(0, 9, 12, 15)] ∈ go_TT := go_tt 379 (by decide +kernel) rfl
theorem cw_L_108 : Cond.methodLink RL 108 y_L_tick ∈ go_TT ∧ Cond.codeWith y_L_tick c_L_tick 4 (some .int) [(0, 9, 12, 15)] ∈ go_TT ∧ Cond.initialized y_L_tick.cls ∈ go_TT ∧ y_L_tick.cls ≠ "java/lang/invoke/MethodHandle" ∧ y_L_tick.cls ≠ "java/lang/invoke/VarHandle" ∧ (parseMethodDescriptor y_L_tick.desc).map (fun d => d.parameters.length) = some 3 := ⟨w_377, w_379, w_28, by decide, by decide, by decide +kernel⟩
theorem w_378 : Cond.static y_L_tick ∈ go_TT := go_tt 378 (by decide +kernel) rfl
theorem w_678 : Cond.methodLink RL 111 y_M_tick ∈ go_TT := go_tt 678 (by decide +kernel) rfl
theorem w_681 : Cond.code y_M_tick c_M_tick 5 (some .int) ∈ go_TT := go_tt 681 (by decide +kernel) rfl
theorem cw_L_111 : go_wd RL 111 y_M_tick c_M_tick 5 (some .int) 1 := ⟨w_678, w_681, w_33, by decide, by decide, by decide +kernel⟩
theorem w_679 : Cond.instanceMethod y_M_tick ∈ go_TT := go_tt 679 (by decide +kernel) rfl
theorem w_680 : Cond.selects RM y_M_tick y_M_tick ∈ go_TT := go_tt 680 (by decide +kernel) rfl
theorem w_400 : Cond.methodLink RL 112 y_L_word ∈ go_TT := go_tt 400 (by decide +kernel) rfl
theorem w_402 : Cond.codeWith y_L_word c_L_word 5 (some .int) [(0, 10, 13, 13), (0, 10, 17, 15), (0, 10, 21, 21)] ∈ go_TT := go_tt 402 (by decide +kernel) rfl
theorem cw_L_112 : Cond.methodLink RL 112 y_L_word ∈ go_TT ∧ Cond.codeWith y_L_word c_L_word 5 (some .int) [(0, 10, 13, 13), (0, 10, 17, 15), (0, 10, 21, 21)] ∈ go_TT ∧ Cond.initialized y_L_word.cls ∈ go_TT ∧ y_L_word.cls ≠ "java/lang/invoke/MethodHandle" ∧ y_L_word.cls ≠ "java/lang/invoke/VarHandle" ∧ (parseMethodDescriptor y_L_word.desc).map (fun d => d.parameters.length) = some 4 := ⟨w_400, w_402, w_28, by decide, by decide, by decide +kernel⟩
theorem w_401 : Cond.static y_L_word ∈ go_TT := go_tt 401 (by decide +kernel) rfl
theorem w_691 : Cond.methodLink RL 115 y_M_word ∈ go_TT := go_tt 691 (by decide +kernel) rfl
theorem w_694 : Cond.code y_M_word c_M_word 5 (some .int) ∈ go_TT := go_tt 694 (by decide +kernel) rfl
theorem cw_L_115 : go_wd RL 115 y_M_word c_M_word 5 (some .int) 2 := ⟨w_691, w_694, w_33, by decide, by decide, by decide +kernel⟩
theorem w_692 : Cond.instanceMethod y_M_word ∈ go_TT := go_tt 692 (by decide +kernel) rfl
theorem w_693 : Cond.selects RM y_M_word y_M_word ∈ go_TT := go_tt 693 (by decide +kernel) rfl
theorem w_419 : Cond.methodLink RL 116 y_L_hurt ∈ go_TT := go_tt 419 (by decide +kernel) rfl
theorem w_421 : Cond.codeWith y_L_hurt c_L_hurt 5 (some .int) [(0, 10, 13, 13), (0, 10, 17, 15), (0, 10, 21, 21)] ∈ go_TT := go_tt 421 (by decide +kernel) rfl
theorem cw_L_116 : Cond.methodLink RL 116 y_L_hurt ∈ go_TT ∧ Cond.codeWith y_L_hurt c_L_hurt 5 (some .int) [(0, 10, 13, 13), (0, 10, 17, 15), (0, 10, 21, 21)] ∈ go_TT ∧ Cond.initialized y_L_hurt.cls ∈ go_TT ∧ y_L_hurt.cls ≠ "java/lang/invoke/MethodHandle" ∧ y_L_hurt.cls ≠ "java/lang/invoke/VarHandle" ∧ (parseMethodDescriptor y_L_hurt.desc).map (fun d => d.parameters.length) = some 4 := ⟨w_419, w_421, w_28, by decide, by decide, by decide +kernel⟩
theorem w_420 : Cond.static y_L_hurt ∈ go_TT := go_tt 420 (by decide +kernel) rfl
theorem w_695 : Cond.methodLink RL 118 y_M_hurt ∈ go_TT := go_tt 695 (by decide +kernel) rfl
theorem w_698 : Cond.code y_M_hurt c_M_hurt 6 (some .int) ∈ go_TT := go_tt 698 (by decide +kernel) rfl
theorem cw_L_118 : go_wd RL 118 y_M_hurt c_M_hurt 6 (some .int) 2 := ⟨w_695, w_698, w_33, by decide, by decide, by decide +kernel⟩
theorem w_696 : Cond.instanceMethod y_M_hurt ∈ go_TT := go_tt 696 (by decide +kernel) rfl
theorem w_697 : Cond.selects RM y_M_hurt y_M_hurt ∈ go_TT := go_tt 697 (by decide +kernel) rfl
theorem w_426 : Cond.methodLink RL 119 y_L_ask ∈ go_TT := go_tt 426 (by decide +kernel) rfl
theorem w_428 : Cond.codeWith y_L_ask c_L_ask 5 (some .int) [(0, 10, 13, 13), (0, 10, 17, 15), (0, 10, 21, 21)] ∈ go_TT := go_tt 428 (by decide +kernel) rfl
theorem cw_L_119 : Cond.methodLink RL 119 y_L_ask ∈ go_TT ∧ Cond.codeWith y_L_ask c_L_ask 5 (some .int) [(0, 10, 13, 13), (0, 10, 17, 15), (0, 10, 21, 21)] ∈ go_TT ∧ Cond.initialized y_L_ask.cls ∈ go_TT ∧ y_L_ask.cls ≠ "java/lang/invoke/MethodHandle" ∧ y_L_ask.cls ≠ "java/lang/invoke/VarHandle" ∧ (parseMethodDescriptor y_L_ask.desc).map (fun d => d.parameters.length) = some 4 := ⟨w_426, w_428, w_28, by decide, by decide, by decide +kernel⟩
theorem w_427 : Cond.static y_L_ask ∈ go_TT := go_tt 427 (by decide +kernel) rfl
theorem w_699 : Cond.methodLink RL 121 y_M_ask ∈ go_TT := go_tt 699 (by decide +kernel) rfl
theorem w_702 : Cond.code y_M_ask c_M_ask 3 (some .int) ∈ go_TT := go_tt 702 (by decide +kernel) rfl
theorem cw_L_121 : go_wd RL 121 y_M_ask c_M_ask 3 (some .int) 2 := ⟨w_699, w_702, w_33, by decide, by decide, by decide +kernel⟩
theorem w_700 : Cond.instanceMethod y_M_ask ∈ go_TT := go_tt 700 (by decide +kernel) rfl
theorem w_701 : Cond.selects RM y_M_ask y_M_ask ∈ go_TT := go_tt 701 (by decide +kernel) rfl
theorem w_433 : Cond.methodLink RL 122 y_L_tell ∈ go_TT := go_tt 433 (by decide +kernel) rfl
theorem w_435 : Cond.codeWith y_L_tell c_L_tell 3 (some .int) [(0, 5, 8, 13), (0, 5, 11, 21)] ∈ go_TT := go_tt 435 (by decide +kernel) rfl
theorem cw_L_122 : Cond.methodLink RL 122 y_L_tell ∈ go_TT ∧ Cond.codeWith y_L_tell c_L_tell 3 (some .int) [(0, 5, 8, 13), (0, 5, 11, 21)] ∈ go_TT ∧ Cond.initialized y_L_tell.cls ∈ go_TT ∧ y_L_tell.cls ≠ "java/lang/invoke/MethodHandle" ∧ y_L_tell.cls ≠ "java/lang/invoke/VarHandle" ∧ (parseMethodDescriptor y_L_tell.desc).map (fun d => d.parameters.length) = some 2 := ⟨w_433, w_435, w_28, by decide, by decide, by decide +kernel⟩
theorem w_434 : Cond.static y_L_tell ∈ go_TT := go_tt 434 (by decide +kernel) rfl
theorem w_703 : Cond.methodLink RL 124 y_M_tell ∈ go_TT := go_tt 703 (by decide +kernel) rfl
theorem w_706 : Cond.code y_M_tell c_M_tell 2 none ∈ go_TT := go_tt 706 (by decide +kernel) rfl
theorem cw_L_124 : go_wd RL 124 y_M_tell c_M_tell 2 none 1 := ⟨w_703, w_706, w_33, by decide, by decide, by decide +kernel⟩
theorem w_704 : Cond.instanceMethod y_M_tell ∈ go_TT := go_tt 704 (by decide +kernel) rfl
theorem w_705 : Cond.selects RM y_M_tell y_M_tell ∈ go_TT := go_tt 705 (by decide +kernel) rfl
theorem w_440 : Cond.methodLink RL 125 y_L_calm ∈ go_TT := go_tt 440 (by decide +kernel) rfl
theorem w_442 : Cond.codeWith y_L_calm c_L_calm 5 (some .int) [(0, 10, 13, 13), (0, 10, 17, 21)] ∈ go_TT := go_tt 442 (by decide +kernel) rfl
theorem cw_L_125 : Cond.methodLink RL 125 y_L_calm ∈ go_TT ∧ Cond.codeWith y_L_calm c_L_calm 5 (some .int) [(0, 10, 13, 13), (0, 10, 17, 21)] ∈ go_TT ∧ Cond.initialized y_L_calm.cls ∈ go_TT ∧ y_L_calm.cls ≠ "java/lang/invoke/MethodHandle" ∧ y_L_calm.cls ≠ "java/lang/invoke/VarHandle" ∧ (parseMethodDescriptor y_L_calm.desc).map (fun d => d.parameters.length) = some 4 := ⟨w_440, w_442, w_28, by decide, by decide, by decide +kernel⟩
theorem w_441 : Cond.static y_L_calm ∈ go_TT := go_tt 441 (by decide +kernel) rfl
theorem w_707 : Cond.methodLink RL 127 y_M_calm ∈ go_TT := go_tt 707 (by decide +kernel) rfl
theorem w_710 : Cond.code y_M_calm c_M_calm 8 (some .int) ∈ go_TT := go_tt 710 (by decide +kernel) rfl
theorem cw_L_127 : go_wd RL 127 y_M_calm c_M_calm 8 (some .int) 2 := ⟨w_707, w_710, w_33, by decide, by decide, by decide +kernel⟩
theorem w_708 : Cond.instanceMethod y_M_calm ∈ go_TT := go_tt 708 (by decide +kernel) rfl
theorem w_709 : Cond.selects RM y_M_calm y_M_calm ∈ go_TT := go_tt 709 (by decide +kernel) rfl
theorem w_471 : Cond.methodLink RL 128 y_L_unit ∈ go_TT := go_tt 471 (by decide +kernel) rfl
theorem w_473 : Cond.codeWith y_L_unit c_L_unit 4 (some .int) [(0, 9, 12, 13), (0, 9, 15, 27)] ∈ go_TT := go_tt 473 (by decide +kernel) rfl
theorem cw_L_128 : Cond.methodLink RL 128 y_L_unit ∈ go_TT ∧ Cond.codeWith y_L_unit c_L_unit 4 (some .int) [(0, 9, 12, 13), (0, 9, 15, 27)] ∈ go_TT ∧ Cond.initialized y_L_unit.cls ∈ go_TT ∧ y_L_unit.cls ≠ "java/lang/invoke/MethodHandle" ∧ y_L_unit.cls ≠ "java/lang/invoke/VarHandle" ∧ (parseMethodDescriptor y_L_unit.desc).map (fun d => d.parameters.length) = some 3 := ⟨w_471, w_473, w_28, by decide, by decide, by decide +kernel⟩
theorem w_472 : Cond.static y_L_unit ∈ go_TT := go_tt 472 (by decide +kernel) rfl
theorem w_719 : Cond.methodLink RL 130 y_M_unit ∈ go_TT := go_tt 719 (by decide +kernel) rfl
theorem w_722 : Cond.code y_M_unit c_M_unit 2 (some .int) ∈ go_TT := go_tt 722 (by decide +kernel) rfl
theorem cw_L_130 : go_wd RL 130 y_M_unit c_M_unit 2 (some .int) 1 := ⟨w_719, w_722, w_33, by decide, by decide, by decide +kernel⟩
theorem w_720 : Cond.instanceMethod y_M_unit ∈ go_TT := go_tt 720 (by decide +kernel) rfl
theorem w_721 : Cond.selects RM y_M_unit y_M_unit ∈ go_TT := go_tt 721 (by decide +kernel) rfl
theorem w_479 : Cond.methodLink RL 131 y_L_go ∈ go_TT := go_tt 479 (by decide +kernel) rfl
theorem w_481 : Cond.codeWith y_L_go c_L_go 5 (some .int) [(0, 7, 10, 13), (0, 7, 14, 15), (0, 7, 18, 21)] ∈ go_TT := go_tt 481 (by decide +kernel) rfl
theorem cw_L_131 : Cond.methodLink RL 131 y_L_go ∈ go_TT ∧ Cond.codeWith y_L_go c_L_go 5 (some .int) [(0, 7, 10, 13), (0, 7, 14, 15), (0, 7, 18, 21)] ∈ go_TT ∧ Cond.initialized y_L_go.cls ∈ go_TT ∧ y_L_go.cls ≠ "java/lang/invoke/MethodHandle" ∧ y_L_go.cls ≠ "java/lang/invoke/VarHandle" ∧ (parseMethodDescriptor y_L_go.desc).map (fun d => d.parameters.length) = some 4 := ⟨w_479, w_481, w_28, by decide, by decide, by decide +kernel⟩
theorem w_480 : Cond.static y_L_go ∈ go_TT := go_tt 480 (by decide +kernel) rfl
theorem w_723 : Cond.methodLink RL 133 y_M_go ∈ go_TT := go_tt 723 (by decide +kernel) rfl
theorem w_726 : Cond.code y_M_go c_M_go 5 none ∈ go_TT := go_tt 726 (by decide +kernel) rfl
theorem cw_L_133 : go_wd RL 133 y_M_go c_M_go 5 none 3 := ⟨w_723, w_726, w_33, by decide, by decide, by decide +kernel⟩
theorem w_724 : Cond.instanceMethod y_M_go ∈ go_TT := go_tt 724 (by decide +kernel) rfl
theorem w_725 : Cond.selects RM y_M_go y_M_go ∈ go_TT := go_tt 725 (by decide +kernel) rfl
theorem w_493 : Cond.methodLink RL 134 y_L_arrive ∈ go_TT := go_tt 493 (by decide +kernel) rfl
theorem w_495 : Cond.codeWith y_L_arrive c_L_arrive 3 (some .int) [(0, 5, 8, 13), (0, 5, 11, 21)] ∈ go_TT := go_tt 495 (by decide +kernel) rfl
theorem cw_L_134 : Cond.methodLink RL 134 y_L_arrive ∈ go_TT ∧ Cond.codeWith y_L_arrive c_L_arrive 3 (some .int) [(0, 5, 8, 13), (0, 5, 11, 21)] ∈ go_TT ∧ Cond.initialized y_L_arrive.cls ∈ go_TT ∧ y_L_arrive.cls ≠ "java/lang/invoke/MethodHandle" ∧ y_L_arrive.cls ≠ "java/lang/invoke/VarHandle" ∧ (parseMethodDescriptor y_L_arrive.desc).map (fun d => d.parameters.length) = some 2 := ⟨w_493, w_495, w_28, by decide, by decide, by decide +kernel⟩
theorem w_494 : Cond.static y_L_arrive ∈ go_TT := go_tt 494 (by decide +kernel) rfl
theorem w_732 : Cond.methodLink RL 136 y_M_arrive ∈ go_TT := go_tt 732 (by decide +kernel) rfl
theorem w_735 : Cond.code y_M_arrive c_M_arrive 3 none ∈ go_TT := go_tt 735 (by decide +kernel) rfl
theorem cw_L_136 : go_wd RL 136 y_M_arrive c_M_arrive 3 none 1 := ⟨w_732, w_735, w_33, by decide, by decide, by decide +kernel⟩
theorem w_733 : Cond.instanceMethod y_M_arrive ∈ go_TT := go_tt 733 (by decide +kernel) rfl
theorem w_734 : Cond.selects RM y_M_arrive y_M_arrive ∈ go_TT := go_tt 734 (by decide +kernel) rfl
theorem w_501 : Cond.methodLink RL 137 y_L_needed ∈ go_TT := go_tt 501 (by decide +kernel) rfl
theorem w_503 : Cond.codeWith y_L_needed c_L_needed 5 (some .int) [(0, 10, 13, 13), (0, 10, 17, 21)] ∈ go_TT := go_tt 503 (by decide +kernel) rfl
theorem cw_L_137 : Cond.methodLink RL 137 y_L_needed ∈ go_TT ∧ Cond.codeWith y_L_needed c_L_needed 5 (some .int) [(0, 10, 13, 13), (0, 10, 17, 21)] ∈ go_TT ∧ Cond.initialized y_L_needed.cls ∈ go_TT ∧ y_L_needed.cls ≠ "java/lang/invoke/MethodHandle" ∧ y_L_needed.cls ≠ "java/lang/invoke/VarHandle" ∧ (parseMethodDescriptor y_L_needed.desc).map (fun d => d.parameters.length) = some 4 := ⟨w_501, w_503, w_28, by decide, by decide, by decide +kernel⟩
theorem w_502 : Cond.static y_L_needed ∈ go_TT := go_tt 502 (by decide +kernel) rfl
theorem w_736 : Cond.methodLink RL 139 y_M_needed ∈ go_TT := go_tt 736 (by decide +kernel) rfl
theorem w_739 : Cond.code y_M_needed c_M_needed 4 (some .int) ∈ go_TT := go_tt 739 (by decide +kernel) rfl
theorem cw_L_139 : go_wd RL 139 y_M_needed c_M_needed 4 (some .int) 2 := ⟨w_736, w_739, w_33, by decide, by decide, by decide +kernel⟩
theorem w_737 : Cond.instanceMethod y_M_needed ∈ go_TT := go_tt 737 (by decide +kernel) rfl
theorem w_738 : Cond.selects RM y_M_needed y_M_needed ∈ go_TT := go_tt 738 (by decide +kernel) rfl
theorem w_508 : Cond.methodLink RL 140 y_L_incident ∈ go_TT := go_tt 508 (by decide +kernel) rfl
theorem w_510 : Cond.codeWith y_L_incident c_L_incident 5 (some .int) [(0, 10, 13, 13)] ∈ go_TT := go_tt 510 (by decide +kernel) rfl
theorem cw_L_140 : Cond.methodLink RL 140 y_L_incident ∈ go_TT ∧ Cond.codeWith y_L_incident c_L_incident 5 (some .int) [(0, 10, 13, 13)] ∈ go_TT ∧ Cond.initialized y_L_incident.cls ∈ go_TT ∧ y_L_incident.cls ≠ "java/lang/invoke/MethodHandle" ∧ y_L_incident.cls ≠ "java/lang/invoke/VarHandle" ∧ (parseMethodDescriptor y_L_incident.desc).map (fun d => d.parameters.length) = some 4 := ⟨w_508, w_510, w_28, by decide, by decide, by decide +kernel⟩
theorem w_509 : Cond.static y_L_incident ∈ go_TT := go_tt 509 (by decide +kernel) rfl
theorem w_740 : Cond.methodLink RL 142 y_M_incident ∈ go_TT := go_tt 740 (by decide +kernel) rfl
theorem w_743 : Cond.code y_M_incident c_M_incident 3 (some .int) ∈ go_TT := go_tt 743 (by decide +kernel) rfl
theorem cw_L_142 : go_wd RL 142 y_M_incident c_M_incident 3 (some .int) 2 := ⟨w_740, w_743, w_33, by decide, by decide, by decide +kernel⟩
theorem w_741 : Cond.instanceMethod y_M_incident ∈ go_TT := go_tt 741 (by decide +kernel) rfl
theorem w_742 : Cond.selects RM y_M_incident y_M_incident ∈ go_TT := go_tt 742 (by decide +kernel) rfl
theorem w_516 : Cond.methodLink RL 143 y_L_unitAt ∈ go_TT := go_tt 516 (by decide +kernel) rfl
theorem w_518 : Cond.codeWith y_L_unitAt c_L_unitAt 5 (some .int) [(0, 10, 13, 13)] ∈ go_TT := go_tt 518 (by decide +kernel) rfl
theorem cw_L_143 : Cond.methodLink RL 143 y_L_unitAt ∈ go_TT ∧ Cond.codeWith y_L_unitAt c_L_unitAt 5 (some .int) [(0, 10, 13, 13)] ∈ go_TT ∧ Cond.initialized y_L_unitAt.cls ∈ go_TT ∧ y_L_unitAt.cls ≠ "java/lang/invoke/MethodHandle" ∧ y_L_unitAt.cls ≠ "java/lang/invoke/VarHandle" ∧ (parseMethodDescriptor y_L_unitAt.desc).map (fun d => d.parameters.length) = some 4 := ⟨w_516, w_518, w_28, by decide, by decide, by decide +kernel⟩
theorem w_517 : Cond.static y_L_unitAt ∈ go_TT := go_tt 517 (by decide +kernel) rfl
theorem w_744 : Cond.methodLink RL 145 y_M_unitAt ∈ go_TT := go_tt 744 (by decide +kernel) rfl
theorem w_747 : Cond.code y_M_unitAt c_M_unitAt 3 (some .int) ∈ go_TT := go_tt 747 (by decide +kernel) rfl
theorem cw_L_145 : go_wd RL 145 y_M_unitAt c_M_unitAt 3 (some .int) 2 := ⟨w_744, w_747, w_33, by decide, by decide, by decide +kernel⟩
theorem w_745 : Cond.instanceMethod y_M_unitAt ∈ go_TT := go_tt 745 (by decide +kernel) rfl
theorem w_746 : Cond.selects RM y_M_unitAt y_M_unitAt ∈ go_TT := go_tt 746 (by decide +kernel) rfl
theorem w_524 : Cond.methodLink RL 146 y_L_acted ∈ go_TT := go_tt 524 (by decide +kernel) rfl
theorem w_526 : Cond.codeWith y_L_acted c_L_acted 4 (some .int) [(0, 9, 12, 13)] ∈ go_TT := go_tt 526 (by decide +kernel) rfl
theorem cw_L_146 : Cond.methodLink RL 146 y_L_acted ∈ go_TT ∧ Cond.codeWith y_L_acted c_L_acted 4 (some .int) [(0, 9, 12, 13)] ∈ go_TT ∧ Cond.initialized y_L_acted.cls ∈ go_TT ∧ y_L_acted.cls ≠ "java/lang/invoke/MethodHandle" ∧ y_L_acted.cls ≠ "java/lang/invoke/VarHandle" ∧ (parseMethodDescriptor y_L_acted.desc).map (fun d => d.parameters.length) = some 3 := ⟨w_524, w_526, w_28, by decide, by decide, by decide +kernel⟩
theorem w_525 : Cond.static y_L_acted ∈ go_TT := go_tt 525 (by decide +kernel) rfl
theorem w_748 : Cond.methodLink RL 148 y_M_acted ∈ go_TT := go_tt 748 (by decide +kernel) rfl
theorem w_751 : Cond.code y_M_acted c_M_acted 2 (some .int) ∈ go_TT := go_tt 751 (by decide +kernel) rfl
theorem cw_L_148 : go_wd RL 148 y_M_acted c_M_acted 2 (some .int) 1 := ⟨w_748, w_751, w_33, by decide, by decide, by decide +kernel⟩
theorem w_749 : Cond.instanceMethod y_M_acted ∈ go_TT := go_tt 749 (by decide +kernel) rfl
theorem w_750 : Cond.selects RM y_M_acted y_M_acted ∈ go_TT := go_tt 750 (by decide +kernel) rfl
theorem w_532 : Cond.methodLink RL 149 y_L_count ∈ go_TT := go_tt 532 (by decide +kernel) rfl
theorem w_534 : Cond.codeWith y_L_count c_L_count 4 (some .int) [(0, 9, 12, 13)] ∈ go_TT := go_tt 534 (by decide +kernel) rfl
theorem cw_L_149 : Cond.methodLink RL 149 y_L_count ∈ go_TT ∧ Cond.codeWith y_L_count c_L_count 4 (some .int) [(0, 9, 12, 13)] ∈ go_TT ∧ Cond.initialized y_L_count.cls ∈ go_TT ∧ y_L_count.cls ≠ "java/lang/invoke/MethodHandle" ∧ y_L_count.cls ≠ "java/lang/invoke/VarHandle" ∧ (parseMethodDescriptor y_L_count.desc).map (fun d => d.parameters.length) = some 3 := ⟨w_532, w_534, w_28, by decide, by decide, by decide +kernel⟩
theorem w_533 : Cond.static y_L_count ∈ go_TT := go_tt 533 (by decide +kernel) rfl
theorem w_752 : Cond.methodLink RL 151 y_M_count ∈ go_TT := go_tt 752 (by decide +kernel) rfl
theorem w_755 : Cond.code y_M_count c_M_count 2 (some .int) ∈ go_TT := go_tt 755 (by decide +kernel) rfl
theorem cw_L_151 : go_wd RL 151 y_M_count c_M_count 2 (some .int) 1 := ⟨w_752, w_755, w_33, by decide, by decide, by decide +kernel⟩
theorem w_753 : Cond.instanceMethod y_M_count ∈ go_TT := go_tt 753 (by decide +kernel) rfl
theorem w_754 : Cond.selects RM y_M_count y_M_count ∈ go_TT := go_tt 754 (by decide +kernel) rfl
