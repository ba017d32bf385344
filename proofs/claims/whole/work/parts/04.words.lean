/-! the words that every method takes: the good ones of the tables -/
def gtbl : List Cond := lw_tbl.filter goodWord
theorem gtbl_in {w : Cond} (h : w ∈ lw_tbl) (g : goodWord w = true) : w ∈ gtbl := List.mem_filter.mpr ⟨h, g⟩
theorem gtbl_good : GoodIn gtbl gtbl := fun _ h => ⟨h, good_of_word (List.mem_filter.mp h).2⟩
theorem igX0 : ∀ w ∈ wsX00, w ∈ gtbl := fun w h => gtbl_in (inX0 w h) (List.all_eq_true.mp (show wsX00.all goodWord = true by decide +kernel) w h)
theorem igX1 : ∀ w ∈ wsX10, w ∈ gtbl := fun w h => gtbl_in (inX1 w h) (List.all_eq_true.mp (show wsX10.all goodWord = true by decide +kernel) w h)
theorem igX2 : ∀ w ∈ wsX20, w ∈ gtbl := fun w h => gtbl_in (inX2 w h) (List.all_eq_true.mp (show wsX20.all goodWord = true by decide +kernel) w h)
theorem igX3 : ∀ w ∈ wsX30, w ∈ gtbl := fun w h => gtbl_in (inX3 w h) (List.all_eq_true.mp (show wsX30.all goodWord = true by decide +kernel) w h)
theorem igX4 : ∀ w ∈ wsX40, w ∈ gtbl := fun w h => gtbl_in (inX4 w h) (List.all_eq_true.mp (show wsX40.all goodWord = true by decide +kernel) w h)
theorem igX5 : ∀ w ∈ wsX50, w ∈ gtbl := fun w h => gtbl_in (inX5 w h) (List.all_eq_true.mp (show wsX50.all goodWord = true by decide +kernel) w h)
theorem igX6 : ∀ w ∈ wsX60, w ∈ gtbl := fun w h => gtbl_in (inX6 w h) (List.all_eq_true.mp (show wsX60.all goodWord = true by decide +kernel) w h)
theorem igX7 : ∀ w ∈ wsX70, w ∈ gtbl := fun w h => gtbl_in (inX7 w h) (List.all_eq_true.mp (show wsX70.all goodWord = true by decide +kernel) w h)
theorem q0 : Cond.selects RX6 yX6_found yX6_found ∈ gtbl := gtbl_in (List.mem_of_getElem? (i := 0) (by decide +kernel)) rfl
theorem q1 : Cond.selects RX6 yX6_areTwo yX6_areTwo ∈ gtbl := gtbl_in (List.mem_of_getElem? (i := 1) (by decide +kernel)) rfl
theorem q2 : Cond.selects RX2 yX2_weighPair yX2_weighPair ∈ gtbl := gtbl_in (List.mem_of_getElem? (i := 2) (by decide +kernel)) rfl
theorem q3 : Cond.selects RX2 yX2_seekLargest yX2_seekLargest ∈ gtbl := gtbl_in (List.mem_of_getElem? (i := 3) (by decide +kernel)) rfl
theorem q4 : Cond.selects RX2 yX2_deal yX2_deal ∈ gtbl := gtbl_in (List.mem_of_getElem? (i := 4) (by decide +kernel)) rfl
theorem q5 : Cond.selects RX2 yX2_countOrders yX2_countOrders ∈ gtbl := gtbl_in (List.mem_of_getElem? (i := 5) (by decide +kernel)) rfl
theorem q6 : Cond.selects RX2 yX2_gatherMembers yX2_gatherMembers ∈ gtbl := gtbl_in (List.mem_of_getElem? (i := 6) (by decide +kernel)) rfl
theorem q7 : Cond.selects RX2 yX2_canLead yX2_canLead ∈ gtbl := gtbl_in (List.mem_of_getElem? (i := 7) (by decide +kernel)) rfl
theorem q8 : Cond.selects RX2 yX2_firstLeader yX2_firstLeader ∈ gtbl := gtbl_in (List.mem_of_getElem? (i := 8) (by decide +kernel)) rfl
theorem q9 : Cond.selects RX6 yX6_printOr yX6_printOr ∈ gtbl := gtbl_in (List.mem_of_getElem? (i := 9) (by decide +kernel)) rfl
theorem q10 : Cond.selects RX2 yX2_rowByYears yX2_rowByYears ∈ gtbl := gtbl_in (List.mem_of_getElem? (i := 10) (by decide +kernel)) rfl
theorem q11 : Cond.selects RX2 yX2_fitsSomewhere yX2_fitsSomewhere ∈ gtbl := gtbl_in (List.mem_of_getElem? (i := 11) (by decide +kernel)) rfl
theorem q12 : Cond.selects RX2 yX2_weighOne yX2_weighOne ∈ gtbl := gtbl_in (List.mem_of_getElem? (i := 12) (by decide +kernel)) rfl
theorem q13 : Cond.selects RX5 yX5_step yX5_step ∈ gtbl := gtbl_in (List.mem_of_getElem? (i := 13) (by decide +kernel)) rfl
theorem q14 : Cond.selects RX5 yX5_stepOverLetters yX5_stepOverLetters ∈ gtbl := gtbl_in (List.mem_of_getElem? (i := 14) (by decide +kernel)) rfl
theorem q15 : Cond.selects RX5 yX5_stepOverDigits yX5_stepOverDigits ∈ gtbl := gtbl_in (List.mem_of_getElem? (i := 15) (by decide +kernel)) rfl
theorem q16 : Cond.selects RX5 yX5_readItem yX5_readItem ∈ gtbl := gtbl_in (List.mem_of_getElem? (i := 16) (by decide +kernel)) rfl
theorem q17 : Cond.selects RX5 yX5_isWord yX5_isWord ∈ gtbl := gtbl_in (List.mem_of_getElem? (i := 17) (by decide +kernel)) rfl
theorem q18 : Cond.selects RX5 yX5_readSlack yX5_readSlack ∈ gtbl := gtbl_in (List.mem_of_getElem? (i := 18) (by decide +kernel)) rfl
theorem q19 : Cond.selects RX5 yX5_isNumber yX5_isNumber ∈ gtbl := gtbl_in (List.mem_of_getElem? (i := 19) (by decide +kernel)) rfl
theorem q20 : Cond.selects RX5 yX5_readLook yX5_readLook ∈ gtbl := gtbl_in (List.mem_of_getElem? (i := 20) (by decide +kernel)) rfl
theorem q21 : Cond.selects RX5 yX5_kindNamed yX5_kindNamed ∈ gtbl := gtbl_in (List.mem_of_getElem? (i := 21) (by decide +kernel)) rfl
theorem q22 : Cond.selects RX5 yX5_readPrint yX5_readPrint ∈ gtbl := gtbl_in (List.mem_of_getElem? (i := 22) (by decide +kernel)) rfl
theorem q23 : Cond.selects RX3 yX3_lowest yX3_lowest ∈ gtbl := gtbl_in (List.mem_of_getElem? (i := 23) (by decide +kernel)) rfl
theorem q24 : Cond.selects RX7 yX7_finds yX7_finds ∈ gtbl := gtbl_in (List.mem_of_getElem? (i := 24) (by decide +kernel)) rfl
theorem q25 : Cond.selects RX7 yX7_addPrint yX7_addPrint ∈ gtbl := gtbl_in (List.mem_of_getElem? (i := 25) (by decide +kernel)) rfl
theorem q26 : Cond.selects RX7 yX7_sets yX7_sets ∈ gtbl := gtbl_in (List.mem_of_getElem? (i := 26) (by decide +kernel)) rfl
theorem q27 : Cond.selects RX7 yX7_isPrint yX7_isPrint ∈ gtbl := gtbl_in (List.mem_of_getElem? (i := 27) (by decide +kernel)) rfl
theorem q28 : Cond.selects RX7 yX7_its yX7_its ∈ gtbl := gtbl_in (List.mem_of_getElem? (i := 28) (by decide +kernel)) rfl
theorem q29 : Cond.selects RX7 yX7_trueWidth yX7_trueWidth ∈ gtbl := gtbl_in (List.mem_of_getElem? (i := 29) (by decide +kernel)) rfl
theorem q30 : Cond.selects RX7 yX7_shows yX7_shows ∈ gtbl := gtbl_in (List.mem_of_getElem? (i := 30) (by decide +kernel)) rfl
theorem q31 : Cond.selects RX7 yX7_hides yX7_hides ∈ gtbl := gtbl_in (List.mem_of_getElem? (i := 31) (by decide +kernel)) rfl
theorem q32 : Cond.selects RX7 yX7_areTwo yX7_areTwo ∈ gtbl := gtbl_in (List.mem_of_getElem? (i := 32) (by decide +kernel)) rfl
theorem q33 : Cond.selects RX7 yX7_canBe yX7_canBe ∈ gtbl := gtbl_in (List.mem_of_getElem? (i := 33) (by decide +kernel)) rfl
theorem q34 : Cond.selects RX7 yX7_marksAllow yX7_marksAllow ∈ gtbl := gtbl_in (List.mem_of_getElem? (i := 34) (by decide +kernel)) rfl
theorem q35 : Cond.selects RX7 yX7_apartBy yX7_apartBy ∈ gtbl := gtbl_in (List.mem_of_getElem? (i := 35) (by decide +kernel)) rfl
theorem q36 : Cond.selects RX7 yX7_isSet yX7_isSet ∈ gtbl := gtbl_in (List.mem_of_getElem? (i := 36) (by decide +kernel)) rfl
theorem q37 : Cond.selects RX7 yX7_findRings yX7_findRings ∈ gtbl := gtbl_in (List.mem_of_getElem? (i := 37) (by decide +kernel)) rfl
theorem q38 : Cond.selects RX7 yX7_findCan yX7_findCan ∈ gtbl := gtbl_in (List.mem_of_getElem? (i := 38) (by decide +kernel)) rfl
theorem q39 : Cond.selects RX7 yX7_isEarlier yX7_isEarlier ∈ gtbl := gtbl_in (List.mem_of_getElem? (i := 39) (by decide +kernel)) rfl
theorem q40 : Cond.selects RX7 yX7_isWithAll yX7_isWithAll ∈ gtbl := gtbl_in (List.mem_of_getElem? (i := 40) (by decide +kernel)) rfl
theorem q41 : Cond.selects RX7 yX7_areOfOne yX7_areOfOne ∈ gtbl := gtbl_in (List.mem_of_getElem? (i := 41) (by decide +kernel)) rfl
theorem q42 : Cond.selects RX7 yX7_bestOf yX7_bestOf ∈ gtbl := gtbl_in (List.mem_of_getElem? (i := 42) (by decide +kernel)) rfl
theorem q43 : Cond.selects RX7 yX7_fewestOf yX7_fewestOf ∈ gtbl := gtbl_in (List.mem_of_getElem? (i := 43) (by decide +kernel)) rfl
theorem q44 : Cond.selects RX7 yX7_findOrders yX7_findOrders ∈ gtbl := gtbl_in (List.mem_of_getElem? (i := 44) (by decide +kernel)) rfl
theorem q45 : Cond.selects RX7 yX7_isAheadOf yX7_isAheadOf ∈ gtbl := gtbl_in (List.mem_of_getElem? (i := 45) (by decide +kernel)) rfl
theorem q46 : Cond.selects RX7 yX7_fitsSomewhere yX7_fitsSomewhere ∈ gtbl := gtbl_in (List.mem_of_getElem? (i := 46) (by decide +kernel)) rfl
theorem q47 : Cond.selects RX7 yX7_isCast yX7_isCast ∈ gtbl := gtbl_in (List.mem_of_getElem? (i := 47) (by decide +kernel)) rfl
theorem q48 : Cond.selects RX7 yX7_fromOf yX7_fromOf ∈ gtbl := gtbl_in (List.mem_of_getElem? (i := 48) (by decide +kernel)) rfl
theorem q49 : Cond.selects RX7 yX7_canBeCast yX7_canBeCast ∈ gtbl := gtbl_in (List.mem_of_getElem? (i := 49) (by decide +kernel)) rfl
theorem q50 : Cond.selects RX7 yX7_withHow yX7_withHow ∈ gtbl := gtbl_in (List.mem_of_getElem? (i := 50) (by decide +kernel)) rfl
theorem q51 : Cond.selects RX7 yX7_moveAll yX7_moveAll ∈ gtbl := gtbl_in (List.mem_of_getElem? (i := 51) (by decide +kernel)) rfl
theorem q52 : Cond.selects RX7 yX7_advance yX7_advance ∈ gtbl := gtbl_in (List.mem_of_getElem? (i := 52) (by decide +kernel)) rfl
theorem q53 : Cond.selects RX7 yX7_byteAt yX7_byteAt ∈ gtbl := gtbl_in (List.mem_of_getElem? (i := 53) (by decide +kernel)) rfl
theorem q54 : Cond.selects RX7 yX7_wantItem yX7_wantItem ∈ gtbl := gtbl_in (List.mem_of_getElem? (i := 54) (by decide +kernel)) rfl
theorem q55 : Cond.selects RX7 yX7_kindHere yX7_kindHere ∈ gtbl := gtbl_in (List.mem_of_getElem? (i := 55) (by decide +kernel)) rfl
theorem q56 : Cond.selects RX7 yX7_isWord yX7_isWord ∈ gtbl := gtbl_in (List.mem_of_getElem? (i := 56) (by decide +kernel)) rfl
theorem q57 : Cond.selects RX7 yX7_wantPrint yX7_wantPrint ∈ gtbl := gtbl_in (List.mem_of_getElem? (i := 57) (by decide +kernel)) rfl
theorem q58 : Cond.selects RX7 yX7_mayWant yX7_mayWant ∈ gtbl := gtbl_in (List.mem_of_getElem? (i := 58) (by decide +kernel)) rfl
theorem q59 : Cond.selects RX7 yX7_wantNumber yX7_wantNumber ∈ gtbl := gtbl_in (List.mem_of_getElem? (i := 59) (by decide +kernel)) rfl
theorem q60 : Cond.selects RX7 yX7_wantSlack yX7_wantSlack ∈ gtbl := gtbl_in (List.mem_of_getElem? (i := 60) (by decide +kernel)) rfl
theorem q61 : Cond.selects RX7 yX7_wantLook yX7_wantLook ∈ gtbl := gtbl_in (List.mem_of_getElem? (i := 61) (by decide +kernel)) rfl
theorem q62 : Cond.selects RX7 yX7_isPart yX7_isPart ∈ gtbl := gtbl_in (List.mem_of_getElem? (i := 62) (by decide +kernel)) rfl
theorem q63 : Cond.initialized RL ∈ gtbl := gtbl_in (List.mem_of_getElem? (i := 63) (by decide +kernel)) rfl
theorem q64 : Cond.initialized RX6 ∈ gtbl := gtbl_in (List.mem_of_getElem? (i := 64) (by decide +kernel)) rfl
theorem q65 : Cond.initialized RX0 ∈ gtbl := gtbl_in (List.mem_of_getElem? (i := 65) (by decide +kernel)) rfl
theorem q66 : Cond.initialized RX1 ∈ gtbl := gtbl_in (List.mem_of_getElem? (i := 66) (by decide +kernel)) rfl
theorem q67 : Cond.initialized RX2 ∈ gtbl := gtbl_in (List.mem_of_getElem? (i := 67) (by decide +kernel)) rfl
theorem q68 : Cond.initialized RX4 ∈ gtbl := gtbl_in (List.mem_of_getElem? (i := 68) (by decide +kernel)) rfl
theorem q69 : Cond.initialized RX5 ∈ gtbl := gtbl_in (List.mem_of_getElem? (i := 69) (by decide +kernel)) rfl
theorem q70 : Cond.initialized RX3 ∈ gtbl := gtbl_in (List.mem_of_getElem? (i := 70) (by decide +kernel)) rfl
theorem q71 : Cond.initialized RX7 ∈ gtbl := gtbl_in (List.mem_of_getElem? (i := 71) (by decide +kernel)) rfl
theorem q72 : Cond.initialized RJ13 ∈ gtbl := gtbl_in (List.mem_of_getElem? (i := 72) (by decide +kernel)) rfl
theorem q73 : Cond.initialized RJ9 ∈ gtbl := gtbl_in (List.mem_of_getElem? (i := 73) (by decide +kernel)) rfl
theorem q74 : Cond.initialized RJ6 ∈ gtbl := gtbl_in (List.mem_of_getElem? (i := 74) (by decide +kernel)) rfl
theorem q75 : Cond.initialized RJ0 ∈ gtbl := gtbl_in (List.mem_of_getElem? (i := 75) (by decide +kernel)) rfl
theorem q76 : Cond.initialized RJ1 ∈ gtbl := gtbl_in (List.mem_of_getElem? (i := 76) (by decide +kernel)) rfl
theorem q77 : Cond.initialized RJ3 ∈ gtbl := gtbl_in (List.mem_of_getElem? (i := 77) (by decide +kernel)) rfl
theorem q78 : Cond.initialized RJ2 ∈ gtbl := gtbl_in (List.mem_of_getElem? (i := 78) (by decide +kernel)) rfl
theorem q79 : Cond.initialized RJ10 ∈ gtbl := gtbl_in (List.mem_of_getElem? (i := 79) (by decide +kernel)) rfl
theorem q80 : Cond.classLink RL 7 RX6 ∈ gtbl := gtbl_in (List.mem_of_getElem? (i := 80) (by decide +kernel)) rfl
theorem q81 : Cond.instantiable RX6 8 ∈ gtbl := gtbl_in (List.mem_of_getElem? (i := 81) (by decide +kernel)) rfl
theorem q82 : Cond.methodLink RL 9 yX6_init ∈ gtbl := gtbl_in (List.mem_of_getElem? (i := 82) (by decide +kernel)) rfl
theorem q83 : Cond.instanceMethod yX6_init ∈ gtbl := gtbl_in (List.mem_of_getElem? (i := 83) (by decide +kernel)) rfl
theorem q84 : Cond.code yX6_init cX6_init 2 none ∈ gtbl := gtbl_in (List.mem_of_getElem? (i := 84) (by decide +kernel)) rfl
theorem q85 : Cond.methodLink RX6 1 objectInit ∈ gtbl := gtbl_in (List.mem_of_getElem? (i := 85) (by decide +kernel)) rfl
theorem q86 : Cond.instanceMethod objectInit ∈ gtbl := gtbl_in (List.mem_of_getElem? (i := 86) (by decide +kernel)) rfl
theorem q87 : Cond.code objectInit object_method_1_code 1 none ∈ gtbl := gtbl_in (List.mem_of_getElem? (i := 87) (by decide +kernel)) rfl
theorem q88 : Cond.classLink RX6 7 RX0 ∈ gtbl := gtbl_in (List.mem_of_getElem? (i := 88) (by decide +kernel)) rfl
theorem q89 : Cond.instantiable RX0 3 ∈ gtbl := gtbl_in (List.mem_of_getElem? (i := 89) (by decide +kernel)) rfl
theorem q90 : Cond.methodLink RX6 9 yX0_init ∈ gtbl := gtbl_in (List.mem_of_getElem? (i := 90) (by decide +kernel)) rfl
theorem q91 : Cond.instanceMethod yX0_init ∈ gtbl := gtbl_in (List.mem_of_getElem? (i := 91) (by decide +kernel)) rfl
theorem q92 : Cond.code yX0_init cX0_init 2 none ∈ gtbl := gtbl_in (List.mem_of_getElem? (i := 92) (by decide +kernel)) rfl
theorem q93 : Cond.methodLink RX0 3 objectInit ∈ gtbl := gtbl_in (List.mem_of_getElem? (i := 93) (by decide +kernel)) rfl
theorem q94 : Cond.classLink RX0 9 RX1 ∈ gtbl := gtbl_in (List.mem_of_getElem? (i := 94) (by decide +kernel)) rfl
theorem q95 : Cond.arrayOver (.object RX1) ∈ lw_tbl := List.mem_of_getElem? (i := 95) (by decide +kernel)
theorem q96 : Cond.instantiable RX1 5 ∈ gtbl := gtbl_in (List.mem_of_getElem? (i := 96) (by decide +kernel)) rfl
theorem q97 : Cond.methodLink RX0 17 yX1_init ∈ gtbl := gtbl_in (List.mem_of_getElem? (i := 97) (by decide +kernel)) rfl
theorem q98 : Cond.instanceMethod yX1_init ∈ gtbl := gtbl_in (List.mem_of_getElem? (i := 98) (by decide +kernel)) rfl
theorem q99 : Cond.code yX1_init cX1_init 1 none ∈ gtbl := gtbl_in (List.mem_of_getElem? (i := 99) (by decide +kernel)) rfl
theorem q100 : Cond.methodLink RX1 3 objectInit ∈ gtbl := gtbl_in (List.mem_of_getElem? (i := 100) (by decide +kernel)) rfl
theorem q101 : Cond.fieldLink RX1 9 RX1 "kind" "I" ∈ gtbl := gtbl_in (List.mem_of_getElem? (i := 101) (by decide +kernel)) rfl
theorem q102 : Cond.fieldLink RX6 84 RX1 "kind" "I" ∈ gtbl := gtbl_in (List.mem_of_getElem? (i := 102) (by decide +kernel)) rfl
theorem q103 : Cond.fieldLink RX0 51 RX1 "kind" "I" ∈ gtbl := gtbl_in (List.mem_of_getElem? (i := 103) (by decide +kernel)) rfl
theorem q104 : Cond.fieldLink RX2 123 RX1 "kind" "I" ∈ gtbl := gtbl_in (List.mem_of_getElem? (i := 104) (by decide +kernel)) rfl
theorem q105 : Cond.fieldLink RX1 15 RX1 "width" "I" ∈ gtbl := gtbl_in (List.mem_of_getElem? (i := 105) (by decide +kernel)) rfl
theorem q106 : Cond.fieldLink RX6 90 RX1 "width" "I" ∈ gtbl := gtbl_in (List.mem_of_getElem? (i := 106) (by decide +kernel)) rfl
theorem q107 : Cond.fieldLink RX5 100 RX1 "width" "I" ∈ gtbl := gtbl_in (List.mem_of_getElem? (i := 107) (by decide +kernel)) rfl
theorem q108 : Cond.fieldLink RX0 89 RX1 "width" "I" ∈ gtbl := gtbl_in (List.mem_of_getElem? (i := 108) (by decide +kernel)) rfl
theorem q109 : Cond.fieldLink RX1 18 RX1 "year" "I" ∈ gtbl := gtbl_in (List.mem_of_getElem? (i := 109) (by decide +kernel)) rfl
theorem q110 : Cond.fieldLink RX6 93 RX1 "year" "I" ∈ gtbl := gtbl_in (List.mem_of_getElem? (i := 110) (by decide +kernel)) rfl
theorem q111 : Cond.fieldLink RX5 104 RX1 "year" "I" ∈ gtbl := gtbl_in (List.mem_of_getElem? (i := 111) (by decide +kernel)) rfl
theorem q112 : Cond.fieldLink RX0 71 RX1 "year" "I" ∈ gtbl := gtbl_in (List.mem_of_getElem? (i := 112) (by decide +kernel)) rfl
theorem q113 : Cond.fieldLink RX2 118 RX1 "year" "I" ∈ gtbl := gtbl_in (List.mem_of_getElem? (i := 113) (by decide +kernel)) rfl
theorem q114 : Cond.fieldLink RX1 21 RX1 "seen" "Z" ∈ gtbl := gtbl_in (List.mem_of_getElem? (i := 114) (by decide +kernel)) rfl
theorem q115 : Cond.fieldLink RX6 96 RX1 "seen" "Z" ∈ gtbl := gtbl_in (List.mem_of_getElem? (i := 115) (by decide +kernel)) rfl
theorem q116 : Cond.fieldLink RX5 88 RX1 "seen" "Z" ∈ gtbl := gtbl_in (List.mem_of_getElem? (i := 116) (by decide +kernel)) rfl
theorem q117 : Cond.fieldLink RX0 92 RX1 "seen" "Z" ∈ gtbl := gtbl_in (List.mem_of_getElem? (i := 117) (by decide +kernel)) rfl
theorem q118 : Cond.fieldLink RX2 136 RX1 "seen" "Z" ∈ gtbl := gtbl_in (List.mem_of_getElem? (i := 118) (by decide +kernel)) rfl
theorem q119 : Cond.fieldLink RX1 27 RX1 "marks" "J" ∈ gtbl := gtbl_in (List.mem_of_getElem? (i := 119) (by decide +kernel)) rfl
theorem q120 : Cond.fieldLink RX6 113 RX1 "marks" "J" ∈ gtbl := gtbl_in (List.mem_of_getElem? (i := 120) (by decide +kernel)) rfl
theorem q121 : Cond.fieldLink RX5 94 RX1 "marks" "J" ∈ gtbl := gtbl_in (List.mem_of_getElem? (i := 121) (by decide +kernel)) rfl
theorem q122 : Cond.fieldLink RX0 85 RX1 "marks" "J" ∈ gtbl := gtbl_in (List.mem_of_getElem? (i := 122) (by decide +kernel)) rfl
theorem q134 : Cond.fieldLink RX0 11 RX0 "prints" "[LSealPrints$Print;" ∈ gtbl := gtbl_in (List.mem_of_getElem? (i := 134) (by decide +kernel)) rfl
theorem q135 : Cond.fieldLink RX6 80 RX0 "prints" "[LSealPrints$Print;" ∈ gtbl := gtbl_in (List.mem_of_getElem? (i := 135) (by decide +kernel)) rfl
theorem q136 : Cond.fieldLink RX5 68 RX0 "prints" "[LSealPrints$Print;" ∈ gtbl := gtbl_in (List.mem_of_getElem? (i := 136) (by decide +kernel)) rfl
theorem q137 : Cond.fieldLink RX2 114 RX0 "prints" "[LSealPrints$Print;" ∈ gtbl := gtbl_in (List.mem_of_getElem? (i := 137) (by decide +kernel)) rfl
theorem q138 : Cond.fieldLink RX0 18 RX0 "size" "I" ∈ gtbl := gtbl_in (List.mem_of_getElem? (i := 138) (by decide +kernel)) rfl
theorem q139 : Cond.fieldLink RX2 37 RX0 "size" "I" ∈ gtbl := gtbl_in (List.mem_of_getElem? (i := 139) (by decide +kernel)) rfl
theorem q140 : Cond.fieldLink RX5 85 RX0 "size" "I" ∈ gtbl := gtbl_in (List.mem_of_getElem? (i := 140) (by decide +kernel)) rfl
theorem q141 : Cond.fieldLink RX6 259 RX0 "size" "I" ∈ gtbl := gtbl_in (List.mem_of_getElem? (i := 141) (by decide +kernel)) rfl
theorem q142 : Cond.fieldLink RX0 22 RX0 "slack" "I" ∈ gtbl := gtbl_in (List.mem_of_getElem? (i := 142) (by decide +kernel)) rfl
theorem q143 : Cond.fieldLink RX5 83 RX0 "slack" "I" ∈ gtbl := gtbl_in (List.mem_of_getElem? (i := 143) (by decide +kernel)) rfl
theorem q144 : Cond.fieldLink RX6 139 RX0 "slack" "I" ∈ gtbl := gtbl_in (List.mem_of_getElem? (i := 144) (by decide +kernel)) rfl
theorem q152 : Cond.classLink RX6 19 RX2 ∈ gtbl := gtbl_in (List.mem_of_getElem? (i := 152) (by decide +kernel)) rfl
theorem q153 : Cond.instantiable RX2 11 ∈ gtbl := gtbl_in (List.mem_of_getElem? (i := 153) (by decide +kernel)) rfl
theorem q154 : Cond.methodLink RX6 21 yX2_init ∈ gtbl := gtbl_in (List.mem_of_getElem? (i := 154) (by decide +kernel)) rfl
theorem q155 : Cond.instanceMethod yX2_init ∈ gtbl := gtbl_in (List.mem_of_getElem? (i := 155) (by decide +kernel)) rfl
theorem q156 : Cond.code yX2_init cX2_init 2 none ∈ gtbl := gtbl_in (List.mem_of_getElem? (i := 156) (by decide +kernel)) rfl
theorem q157 : Cond.methodLink RX2 3 objectInit ∈ gtbl := gtbl_in (List.mem_of_getElem? (i := 157) (by decide +kernel)) rfl
theorem q158 : Cond.fieldLink RX2 9 RX2 "archive" "LSealPrints$Archive;" ∈ gtbl := gtbl_in (List.mem_of_getElem? (i := 158) (by decide +kernel)) rfl
theorem q159 : Cond.fieldLink RX2 15 RX2 "laters" "[I" ∈ gtbl := gtbl_in (List.mem_of_getElem? (i := 159) (by decide +kernel)) rfl
theorem q160 : Cond.fieldLink RX2 19 RX2 "mates" "[I" ∈ gtbl := gtbl_in (List.mem_of_getElem? (i := 160) (by decide +kernel)) rfl
theorem q161 : Cond.fieldLink RX2 22 RX2 "row" "[I" ∈ gtbl := gtbl_in (List.mem_of_getElem? (i := 161) (by decide +kernel)) rfl
theorem q162 : Cond.fieldLink RX2 25 RX2 "dealt" "[I" ∈ gtbl := gtbl_in (List.mem_of_getElem? (i := 162) (by decide +kernel)) rfl
theorem q163 : Cond.fieldLink RX2 28 RX2 "members" "[I" ∈ gtbl := gtbl_in (List.mem_of_getElem? (i := 163) (by decide +kernel)) rfl
theorem q164 : Cond.fieldLink RX2 31 RX2 "followers" "[I" ∈ gtbl := gtbl_in (List.mem_of_getElem? (i := 164) (by decide +kernel)) rfl
theorem q165 : Cond.fieldLink RX2 34 RX2 "orderCounts" "[I" ∈ gtbl := gtbl_in (List.mem_of_getElem? (i := 165) (by decide +kernel)) rfl
theorem q166 : Cond.fieldLink RX2 68 RX2 "largest" "I" ∈ gtbl := gtbl_in (List.mem_of_getElem? (i := 166) (by decide +kernel)) rfl
theorem q167 : Cond.fieldLink RX2 81 RX2 "fewestDealt" "I" ∈ gtbl := gtbl_in (List.mem_of_getElem? (i := 167) (by decide +kernel)) rfl
theorem q168 : Cond.fieldLink RX2 91 RX2 "memberCount" "I" ∈ gtbl := gtbl_in (List.mem_of_getElem? (i := 168) (by decide +kernel)) rfl
theorem q192 : Cond.arrayClass .int ∈ gtbl := gtbl_in (List.mem_of_getElem? (i := 192) (by decide +kernel)) rfl
theorem q193 : Cond.classLink RX6 28 RX4 ∈ gtbl := gtbl_in (List.mem_of_getElem? (i := 193) (by decide +kernel)) rfl
theorem q194 : Cond.instantiable RX4 2 ∈ gtbl := gtbl_in (List.mem_of_getElem? (i := 194) (by decide +kernel)) rfl
theorem q195 : Cond.methodLink RX6 30 yX4_init ∈ gtbl := gtbl_in (List.mem_of_getElem? (i := 195) (by decide +kernel)) rfl
theorem q196 : Cond.instanceMethod yX4_init ∈ gtbl := gtbl_in (List.mem_of_getElem? (i := 196) (by decide +kernel)) rfl
theorem q197 : Cond.code yX4_init cX4_init 1 none ∈ gtbl := gtbl_in (List.mem_of_getElem? (i := 197) (by decide +kernel)) rfl
theorem q198 : Cond.methodLink RX4 3 objectInit ∈ gtbl := gtbl_in (List.mem_of_getElem? (i := 198) (by decide +kernel)) rfl
theorem q199 : Cond.fieldLink RX4 9 RX4 "bytes" "[I" ∈ gtbl := gtbl_in (List.mem_of_getElem? (i := 199) (by decide +kernel)) rfl
theorem q200 : Cond.fieldLink RX4 15 RX4 "size" "I" ∈ gtbl := gtbl_in (List.mem_of_getElem? (i := 200) (by decide +kernel)) rfl
theorem q201 : Cond.fieldLink RX5 134 RX4 "size" "I" ∈ gtbl := gtbl_in (List.mem_of_getElem? (i := 201) (by decide +kernel)) rfl
theorem q202 : Cond.fieldLink RX6 214 RX4 "size" "I" ∈ gtbl := gtbl_in (List.mem_of_getElem? (i := 202) (by decide +kernel)) rfl
theorem q208 : Cond.classLink RX6 35 RX5 ∈ gtbl := gtbl_in (List.mem_of_getElem? (i := 208) (by decide +kernel)) rfl
theorem q209 : Cond.instantiable RX5 7 ∈ gtbl := gtbl_in (List.mem_of_getElem? (i := 209) (by decide +kernel)) rfl
theorem q210 : Cond.methodLink RX6 37 yX5_init ∈ gtbl := gtbl_in (List.mem_of_getElem? (i := 210) (by decide +kernel)) rfl
theorem q211 : Cond.instanceMethod yX5_init ∈ gtbl := gtbl_in (List.mem_of_getElem? (i := 211) (by decide +kernel)) rfl
theorem q212 : Cond.code yX5_init cX5_init 3 none ∈ gtbl := gtbl_in (List.mem_of_getElem? (i := 212) (by decide +kernel)) rfl
theorem q213 : Cond.methodLink RX5 3 objectInit ∈ gtbl := gtbl_in (List.mem_of_getElem? (i := 213) (by decide +kernel)) rfl
theorem q214 : Cond.classLink RX5 19 RX0 ∈ gtbl := gtbl_in (List.mem_of_getElem? (i := 214) (by decide +kernel)) rfl
theorem q215 : Cond.methodLink RX5 21 yX0_init ∈ gtbl := gtbl_in (List.mem_of_getElem? (i := 215) (by decide +kernel)) rfl
theorem q216 : Cond.fieldLink RX5 9 RX5 "tape" "LSealPrints$Tape;" ∈ gtbl := gtbl_in (List.mem_of_getElem? (i := 216) (by decide +kernel)) rfl
theorem q217 : Cond.fieldLink RX5 15 RX5 "archive" "LSealPrints$Archive;" ∈ gtbl := gtbl_in (List.mem_of_getElem? (i := 217) (by decide +kernel)) rfl
theorem q218 : Cond.fieldLink RX5 22 RX5 "before" "LSealPrints$Archive;" ∈ gtbl := gtbl_in (List.mem_of_getElem? (i := 218) (by decide +kernel)) rfl
theorem q219 : Cond.fieldLink RX5 40 RX5 "token" "I" ∈ gtbl := gtbl_in (List.mem_of_getElem? (i := 219) (by decide +kernel)) rfl
theorem q220 : Cond.fieldLink RX5 43 RX5 "start" "I" ∈ gtbl := gtbl_in (List.mem_of_getElem? (i := 220) (by decide +kernel)) rfl
theorem q221 : Cond.fieldLink RX5 29 RX5 "end" "I" ∈ gtbl := gtbl_in (List.mem_of_getElem? (i := 221) (by decide +kernel)) rfl
theorem q222 : Cond.fieldLink RX5 80 RX5 "worth" "I" ∈ gtbl := gtbl_in (List.mem_of_getElem? (i := 222) (by decide +kernel)) rfl
theorem q238 : Cond.classLink RX6 44 RX3 ∈ gtbl := gtbl_in (List.mem_of_getElem? (i := 238) (by decide +kernel)) rfl
theorem q239 : Cond.arrayOver (.object RX3) ∈ lw_tbl := List.mem_of_getElem? (i := 239) (by decide +kernel)
theorem q240 : Cond.instantiable RX3 3 ∈ gtbl := gtbl_in (List.mem_of_getElem? (i := 240) (by decide +kernel)) rfl
theorem q241 : Cond.methodLink RX6 50 yX3_init ∈ gtbl := gtbl_in (List.mem_of_getElem? (i := 241) (by decide +kernel)) rfl
theorem q242 : Cond.instanceMethod yX3_init ∈ gtbl := gtbl_in (List.mem_of_getElem? (i := 242) (by decide +kernel)) rfl
theorem q243 : Cond.code yX3_init cX3_init 1 none ∈ gtbl := gtbl_in (List.mem_of_getElem? (i := 243) (by decide +kernel)) rfl
theorem q244 : Cond.methodLink RX3 3 objectInit ∈ gtbl := gtbl_in (List.mem_of_getElem? (i := 244) (by decide +kernel)) rfl
theorem q245 : Cond.fieldLink RX3 9 RX3 "numbers" "[J" ∈ gtbl := gtbl_in (List.mem_of_getElem? (i := 245) (by decide +kernel)) rfl
theorem q246 : Cond.fieldLink RX6 239 RX3 "numbers" "[J" ∈ gtbl := gtbl_in (List.mem_of_getElem? (i := 246) (by decide +kernel)) rfl
theorem q247 : Cond.fieldLink RX3 15 RX3 "bits" "I" ∈ gtbl := gtbl_in (List.mem_of_getElem? (i := 247) (by decide +kernel)) rfl
theorem q248 : Cond.fieldLink RX6 247 RX3 "bits" "I" ∈ gtbl := gtbl_in (List.mem_of_getElem? (i := 248) (by decide +kernel)) rfl
theorem q249 : Cond.fieldLink RX3 19 RX3 "size" "I" ∈ gtbl := gtbl_in (List.mem_of_getElem? (i := 249) (by decide +kernel)) rfl
theorem q250 : Cond.fieldLink RX6 238 RX3 "size" "I" ∈ gtbl := gtbl_in (List.mem_of_getElem? (i := 250) (by decide +kernel)) rfl
theorem q258 : Cond.arrayClass .long ∈ gtbl := gtbl_in (List.mem_of_getElem? (i := 258) (by decide +kernel)) rfl
theorem q259 : Cond.fieldLink RX6 10 RX6 "archive" "LSealPrints$Archive;" ∈ gtbl := gtbl_in (List.mem_of_getElem? (i := 259) (by decide +kernel)) rfl
theorem q260 : Cond.fieldLink RX6 16 RX6 "kept" "LSealPrints$Archive;" ∈ gtbl := gtbl_in (List.mem_of_getElem? (i := 260) (by decide +kernel)) rfl
theorem q261 : Cond.fieldLink RX6 24 RX6 "rings" "LSealPrints$Rings;" ∈ gtbl := gtbl_in (List.mem_of_getElem? (i := 261) (by decide +kernel)) rfl
theorem q262 : Cond.fieldLink RX6 31 RX6 "tape" "LSealPrints$Tape;" ∈ gtbl := gtbl_in (List.mem_of_getElem? (i := 262) (by decide +kernel)) rfl
theorem q263 : Cond.fieldLink RX6 40 RX6 "reader" "LSealPrints$TextReader;" ∈ gtbl := gtbl_in (List.mem_of_getElem? (i := 263) (by decide +kernel)) rfl
theorem q264 : Cond.fieldLink RX6 46 RX6 "sheets" "[LSealPrints$Sheet;" ∈ gtbl := gtbl_in (List.mem_of_getElem? (i := 264) (by decide +kernel)) rfl
theorem q265 : Cond.fieldLink RX6 51 RX6 "tally" "[I" ∈ gtbl := gtbl_in (List.mem_of_getElem? (i := 265) (by decide +kernel)) rfl
theorem q266 : Cond.fieldLink RX6 55 RX6 "isKept" "Z" ∈ gtbl := gtbl_in (List.mem_of_getElem? (i := 266) (by decide +kernel)) rfl
theorem q284 : Cond.methodLink RL 15 yX6_print ∈ gtbl := gtbl_in (List.mem_of_getElem? (i := 284) (by decide +kernel)) rfl
theorem q285 : Cond.instanceMethod yX6_print ∈ gtbl := gtbl_in (List.mem_of_getElem? (i := 285) (by decide +kernel)) rfl
theorem q286 : Cond.selects RX6 yX6_print yX6_print ∈ gtbl := gtbl_in (List.mem_of_getElem? (i := 286) (by decide +kernel)) rfl
theorem q287 : Cond.code yX6_print cX6_print 4 (some .int) ∈ gtbl := gtbl_in (List.mem_of_getElem? (i := 287) (by decide +kernel)) rfl
theorem q288 : Cond.methodLink RX6 59 yX6_isKind ∈ gtbl := gtbl_in (List.mem_of_getElem? (i := 288) (by decide +kernel)) rfl
theorem q289 : Cond.static yX6_isKind ∈ gtbl := gtbl_in (List.mem_of_getElem? (i := 289) (by decide +kernel)) rfl
theorem q290 : Cond.code yX6_isKind cX6_isKind 1 (some .boolean) ∈ gtbl := gtbl_in (List.mem_of_getElem? (i := 290) (by decide +kernel)) rfl
theorem q291 : Cond.constant RX6 63 (-1000000001) ∈ gtbl := gtbl_in (List.mem_of_getElem? (i := 291) (by decide +kernel)) rfl
theorem q292 : Cond.methodLink RX6 64 yX6_found ∈ gtbl := gtbl_in (List.mem_of_getElem? (i := 292) (by decide +kernel)) rfl
theorem q294 : Cond.instanceMethod yX6_found ∈ gtbl := gtbl_in (List.mem_of_getElem? (i := 294) (by decide +kernel)) rfl
theorem q295 : Cond.code yX6_found cX6_found 3 (some .int) ∈ gtbl := gtbl_in (List.mem_of_getElem? (i := 295) (by decide +kernel)) rfl
theorem q296 : Cond.methodLink RX6 68 yX0_isFull ∈ gtbl := gtbl_in (List.mem_of_getElem? (i := 296) (by decide +kernel)) rfl
theorem q297 : Cond.instanceMethod yX0_isFull ∈ gtbl := gtbl_in (List.mem_of_getElem? (i := 297) (by decide +kernel)) rfl
theorem q298 : Cond.selects RX0 yX0_isFull yX0_isFull ∈ gtbl := gtbl_in (List.mem_of_getElem? (i := 298) (by decide +kernel)) rfl
theorem q299 : Cond.code yX0_isFull cX0_isFull 1 (some .boolean) ∈ gtbl := gtbl_in (List.mem_of_getElem? (i := 299) (by decide +kernel)) rfl
theorem q300 : Cond.constant RX6 72 (-1000000002) ∈ gtbl := gtbl_in (List.mem_of_getElem? (i := 300) (by decide +kernel)) rfl
theorem q301 : Cond.methodLink RX6 73 yX0_hang ∈ gtbl := gtbl_in (List.mem_of_getElem? (i := 301) (by decide +kernel)) rfl
theorem q302 : Cond.instanceMethod yX0_hang ∈ gtbl := gtbl_in (List.mem_of_getElem? (i := 302) (by decide +kernel)) rfl
theorem q303 : Cond.selects RX0 yX0_hang yX0_hang ∈ gtbl := gtbl_in (List.mem_of_getElem? (i := 303) (by decide +kernel)) rfl
theorem q304 : Cond.code yX0_hang cX0_hang 4 (some .int) ∈ gtbl := gtbl_in (List.mem_of_getElem? (i := 304) (by decide +kernel)) rfl
theorem q305 : Cond.methodLink RX0 29 yX0_isFull ∈ gtbl := gtbl_in (List.mem_of_getElem? (i := 305) (by decide +kernel)) rfl
theorem q306 : Cond.methodLink RX0 33 yX1_begin ∈ gtbl := gtbl_in (List.mem_of_getElem? (i := 306) (by decide +kernel)) rfl
theorem q307 : Cond.instanceMethod yX1_begin ∈ gtbl := gtbl_in (List.mem_of_getElem? (i := 307) (by decide +kernel)) rfl
theorem q308 : Cond.selects RX1 yX1_begin yX1_begin ∈ gtbl := gtbl_in (List.mem_of_getElem? (i := 308) (by decide +kernel)) rfl
theorem q309 : Cond.code yX1_begin cX1_begin 4 none ∈ gtbl := gtbl_in (List.mem_of_getElem? (i := 309) (by decide +kernel)) rfl
theorem q310 : Cond.constantLong RX1 25 1099511627775 ∈ gtbl := gtbl_in (List.mem_of_getElem? (i := 310) (by decide +kernel)) rfl
theorem q311 : Cond.methodLink RL 20 yX6_of ∈ gtbl := gtbl_in (List.mem_of_getElem? (i := 311) (by decide +kernel)) rfl
theorem q312 : Cond.instanceMethod yX6_of ∈ gtbl := gtbl_in (List.mem_of_getElem? (i := 312) (by decide +kernel)) rfl
theorem q313 : Cond.selects RX6 yX6_of yX6_of ∈ gtbl := gtbl_in (List.mem_of_getElem? (i := 313) (by decide +kernel)) rfl
theorem q314 : Cond.code yX6_of cX6_of 4 (some .int) ∈ gtbl := gtbl_in (List.mem_of_getElem? (i := 314) (by decide +kernel)) rfl
theorem q315 : Cond.methodLink RX6 77 yX0_has ∈ gtbl := gtbl_in (List.mem_of_getElem? (i := 315) (by decide +kernel)) rfl
theorem q316 : Cond.instanceMethod yX0_has ∈ gtbl := gtbl_in (List.mem_of_getElem? (i := 316) (by decide +kernel)) rfl
theorem q317 : Cond.selects RX0 yX0_has yX0_has ∈ gtbl := gtbl_in (List.mem_of_getElem? (i := 317) (by decide +kernel)) rfl
theorem q318 : Cond.code yX0_has cX0_has 2 (some .boolean) ∈ gtbl := gtbl_in (List.mem_of_getElem? (i := 318) (by decide +kernel)) rfl
theorem q319 : Cond.methodLink RX6 99 yX1_trueWidth ∈ gtbl := gtbl_in (List.mem_of_getElem? (i := 319) (by decide +kernel)) rfl
theorem q320 : Cond.instanceMethod yX1_trueWidth ∈ gtbl := gtbl_in (List.mem_of_getElem? (i := 320) (by decide +kernel)) rfl
theorem q321 : Cond.selects RX1 yX1_trueWidth yX1_trueWidth ∈ gtbl := gtbl_in (List.mem_of_getElem? (i := 321) (by decide +kernel)) rfl
theorem q322 : Cond.code yX1_trueWidth cX1_trueWidth 1 (some .int) ∈ gtbl := gtbl_in (List.mem_of_getElem? (i := 322) (by decide +kernel)) rfl
theorem q323 : Cond.methodLink RX6 103 yX1_shown ∈ gtbl := gtbl_in (List.mem_of_getElem? (i := 323) (by decide +kernel)) rfl
theorem q324 : Cond.instanceMethod yX1_shown ∈ gtbl := gtbl_in (List.mem_of_getElem? (i := 324) (by decide +kernel)) rfl
theorem q325 : Cond.selects RX1 yX1_shown yX1_shown ∈ gtbl := gtbl_in (List.mem_of_getElem? (i := 325) (by decide +kernel)) rfl
theorem q326 : Cond.code yX1_shown cX1_shown 1 (some .long) ∈ gtbl := gtbl_in (List.mem_of_getElem? (i := 326) (by decide +kernel)) rfl
theorem q327 : Cond.methodLink RX1 37 yX1_hidden ∈ gtbl := gtbl_in (List.mem_of_getElem? (i := 327) (by decide +kernel)) rfl
theorem q328 : Cond.instanceMethod yX1_hidden ∈ gtbl := gtbl_in (List.mem_of_getElem? (i := 328) (by decide +kernel)) rfl
theorem q329 : Cond.selects RX1 yX1_hidden yX1_hidden ∈ gtbl := gtbl_in (List.mem_of_getElem? (i := 329) (by decide +kernel)) rfl
theorem q330 : Cond.code yX1_hidden cX1_hidden 3 (some .long) ∈ gtbl := gtbl_in (List.mem_of_getElem? (i := 330) (by decide +kernel)) rfl
theorem q331 : Cond.constantLong RX1 31 1098437885952 ∈ gtbl := gtbl_in (List.mem_of_getElem? (i := 331) (by decide +kernel)) rfl
theorem q332 : Cond.constantLong RX1 33 733007751850 ∈ gtbl := gtbl_in (List.mem_of_getElem? (i := 332) (by decide +kernel)) rfl
theorem q333 : Cond.constantLong RX1 35 1099510579200 ∈ gtbl := gtbl_in (List.mem_of_getElem? (i := 333) (by decide +kernel)) rfl
theorem q334 : Cond.constantLong RX1 41 (-1) ∈ gtbl := gtbl_in (List.mem_of_getElem? (i := 334) (by decide +kernel)) rfl
theorem q335 : Cond.methodLink RX6 107 yJ13_bitCount_95d88 ∈ gtbl := gtbl_in (List.mem_of_getElem? (i := 335) (by decide +kernel)) rfl
theorem q336 : Cond.static yJ13_bitCount_95d88 ∈ gtbl := gtbl_in (List.mem_of_getElem? (i := 336) (by decide +kernel)) rfl
theorem q337 : Cond.code yJ13_bitCount_95d88 cJ13_bitCount_95d88 2 (some .int) ∈ gtbl := gtbl_in (List.mem_of_getElem? (i := 337) (by decide +kernel)) rfl
theorem q338 : Cond.constantLong RJ13 314 6148914691236517205 ∈ gtbl := gtbl_in (List.mem_of_getElem? (i := 338) (by decide +kernel)) rfl
theorem q339 : Cond.constantLong RJ13 316 3689348814741910323 ∈ gtbl := gtbl_in (List.mem_of_getElem? (i := 339) (by decide +kernel)) rfl
theorem q340 : Cond.constantLong RJ13 318 1085102592571150095 ∈ gtbl := gtbl_in (List.mem_of_getElem? (i := 340) (by decide +kernel)) rfl
theorem q341 : Cond.methodLink RL 25 yX6_marks ∈ gtbl := gtbl_in (List.mem_of_getElem? (i := 341) (by decide +kernel)) rfl
theorem q342 : Cond.instanceMethod yX6_marks ∈ gtbl := gtbl_in (List.mem_of_getElem? (i := 342) (by decide +kernel)) rfl
theorem q343 : Cond.selects RX6 yX6_marks yX6_marks ∈ gtbl := gtbl_in (List.mem_of_getElem? (i := 343) (by decide +kernel)) rfl
theorem q344 : Cond.code yX6_marks cX6_marks 4 (some .long) ∈ gtbl := gtbl_in (List.mem_of_getElem? (i := 344) (by decide +kernel)) rfl
theorem q345 : Cond.methodLink RX6 117 yX1_hidden ∈ gtbl := gtbl_in (List.mem_of_getElem? (i := 345) (by decide +kernel)) rfl
theorem q346 : Cond.methodLink RL 30 yX6_set ∈ gtbl := gtbl_in (List.mem_of_getElem? (i := 346) (by decide +kernel)) rfl
theorem q347 : Cond.instanceMethod yX6_set ∈ gtbl := gtbl_in (List.mem_of_getElem? (i := 347) (by decide +kernel)) rfl
theorem q348 : Cond.selects RX6 yX6_set yX6_set ∈ gtbl := gtbl_in (List.mem_of_getElem? (i := 348) (by decide +kernel)) rfl
theorem q349 : Cond.code yX6_set cX6_set 6 (some .int) ∈ gtbl := gtbl_in (List.mem_of_getElem? (i := 349) (by decide +kernel)) rfl
theorem q350 : Cond.methodLink RX6 120 yX6_isWidth ∈ gtbl := gtbl_in (List.mem_of_getElem? (i := 350) (by decide +kernel)) rfl
theorem q351 : Cond.static yX6_isWidth ∈ gtbl := gtbl_in (List.mem_of_getElem? (i := 351) (by decide +kernel)) rfl
theorem q352 : Cond.code yX6_isWidth cX6_isWidth 1 (some .boolean) ∈ gtbl := gtbl_in (List.mem_of_getElem? (i := 352) (by decide +kernel)) rfl
theorem q353 : Cond.methodLink RX6 123 yX6_isYear ∈ gtbl := gtbl_in (List.mem_of_getElem? (i := 353) (by decide +kernel)) rfl
theorem q354 : Cond.static yX6_isYear ∈ gtbl := gtbl_in (List.mem_of_getElem? (i := 354) (by decide +kernel)) rfl
theorem q355 : Cond.code yX6_isYear cX6_isYear 1 (some .boolean) ∈ gtbl := gtbl_in (List.mem_of_getElem? (i := 355) (by decide +kernel)) rfl
theorem q356 : Cond.methodLink RL 35 yX6_scratch ∈ gtbl := gtbl_in (List.mem_of_getElem? (i := 356) (by decide +kernel)) rfl
theorem q357 : Cond.instanceMethod yX6_scratch ∈ gtbl := gtbl_in (List.mem_of_getElem? (i := 357) (by decide +kernel)) rfl
theorem q358 : Cond.selects RX6 yX6_scratch yX6_scratch ∈ gtbl := gtbl_in (List.mem_of_getElem? (i := 358) (by decide +kernel)) rfl
theorem q359 : Cond.code yX6_scratch cX6_scratch 9 (some .int) ∈ gtbl := gtbl_in (List.mem_of_getElem? (i := 359) (by decide +kernel)) rfl
theorem q360 : Cond.methodLink RX6 126 yX6_isPlace ∈ gtbl := gtbl_in (List.mem_of_getElem? (i := 360) (by decide +kernel)) rfl
theorem q361 : Cond.static yX6_isPlace ∈ gtbl := gtbl_in (List.mem_of_getElem? (i := 361) (by decide +kernel)) rfl
theorem q362 : Cond.code yX6_isPlace cX6_isPlace 1 (some .boolean) ∈ gtbl := gtbl_in (List.mem_of_getElem? (i := 362) (by decide +kernel)) rfl
theorem q363 : Cond.constantLong RX6 129 (-1) ∈ gtbl := gtbl_in (List.mem_of_getElem? (i := 363) (by decide +kernel)) rfl
theorem q364 : Cond.methodLink RL 40 yX6_look ∈ gtbl := gtbl_in (List.mem_of_getElem? (i := 364) (by decide +kernel)) rfl
theorem q365 : Cond.instanceMethod yX6_look ∈ gtbl := gtbl_in (List.mem_of_getElem? (i := 365) (by decide +kernel)) rfl
theorem q366 : Cond.selects RX6 yX6_look yX6_look ∈ gtbl := gtbl_in (List.mem_of_getElem? (i := 366) (by decide +kernel)) rfl
theorem q367 : Cond.code yX6_look cX6_look 4 (some .int) ∈ gtbl := gtbl_in (List.mem_of_getElem? (i := 367) (by decide +kernel)) rfl
theorem q368 : Cond.methodLink RL 45 yX6_turn ∈ gtbl := gtbl_in (List.mem_of_getElem? (i := 368) (by decide +kernel)) rfl
theorem q369 : Cond.instanceMethod yX6_turn ∈ gtbl := gtbl_in (List.mem_of_getElem? (i := 369) (by decide +kernel)) rfl
theorem q370 : Cond.selects RX6 yX6_turn yX6_turn ∈ gtbl := gtbl_in (List.mem_of_getElem? (i := 370) (by decide +kernel)) rfl
theorem q371 : Cond.code yX6_turn cX6_turn 5 (some .int) ∈ gtbl := gtbl_in (List.mem_of_getElem? (i := 371) (by decide +kernel)) rfl
theorem q372 : Cond.methodLink RL 49 yX6_as ∈ gtbl := gtbl_in (List.mem_of_getElem? (i := 372) (by decide +kernel)) rfl
theorem q373 : Cond.instanceMethod yX6_as ∈ gtbl := gtbl_in (List.mem_of_getElem? (i := 373) (by decide +kernel)) rfl
theorem q374 : Cond.selects RX6 yX6_as yX6_as ∈ gtbl := gtbl_in (List.mem_of_getElem? (i := 374) (by decide +kernel)) rfl
theorem q375 : Cond.code yX6_as cX6_as 4 (some .int) ∈ gtbl := gtbl_in (List.mem_of_getElem? (i := 375) (by decide +kernel)) rfl
theorem q376 : Cond.methodLink RX6 131 yX6_isUnder ∈ gtbl := gtbl_in (List.mem_of_getElem? (i := 376) (by decide +kernel)) rfl
theorem q377 : Cond.static yX6_isUnder ∈ gtbl := gtbl_in (List.mem_of_getElem? (i := 377) (by decide +kernel)) rfl
theorem q378 : Cond.code yX6_isUnder cX6_isUnder 4 (some .boolean) ∈ gtbl := gtbl_in (List.mem_of_getElem? (i := 378) (by decide +kernel)) rfl
theorem q379 : Cond.fieldLink RX6 279 RX6 "UNDER" "[I" ∈ gtbl := gtbl_in (List.mem_of_getElem? (i := 379) (by decide +kernel)) rfl
theorem q380 : Cond.laysStatic RX6 "UNDER" "[I" ∈ lw_tbl := List.mem_of_getElem? (i := 380) (by decide +kernel)
theorem q381 : Cond.constant RX6 135 (-1000000003) ∈ gtbl := gtbl_in (List.mem_of_getElem? (i := 381) (by decide +kernel)) rfl
theorem q382 : Cond.methodLink RL 53 yX6_slack ∈ gtbl := gtbl_in (List.mem_of_getElem? (i := 382) (by decide +kernel)) rfl
theorem q383 : Cond.instanceMethod yX6_slack ∈ gtbl := gtbl_in (List.mem_of_getElem? (i := 383) (by decide +kernel)) rfl
theorem q384 : Cond.selects RX6 yX6_slack yX6_slack ∈ gtbl := gtbl_in (List.mem_of_getElem? (i := 384) (by decide +kernel)) rfl
theorem q385 : Cond.code yX6_slack cX6_slack 3 (some .int) ∈ gtbl := gtbl_in (List.mem_of_getElem? (i := 385) (by decide +kernel)) rfl
theorem q386 : Cond.methodLink RX6 136 yX6_isSlack ∈ gtbl := gtbl_in (List.mem_of_getElem? (i := 386) (by decide +kernel)) rfl
theorem q387 : Cond.static yX6_isSlack ∈ gtbl := gtbl_in (List.mem_of_getElem? (i := 387) (by decide +kernel)) rfl
theorem q388 : Cond.code yX6_isSlack cX6_isSlack 1 (some .boolean) ∈ gtbl := gtbl_in (List.mem_of_getElem? (i := 388) (by decide +kernel)) rfl
theorem q389 : Cond.methodLink RL 57 yX6_ahead ∈ gtbl := gtbl_in (List.mem_of_getElem? (i := 389) (by decide +kernel)) rfl
theorem q390 : Cond.instanceMethod yX6_ahead ∈ gtbl := gtbl_in (List.mem_of_getElem? (i := 390) (by decide +kernel)) rfl
theorem q391 : Cond.selects RX6 yX6_ahead yX6_ahead ∈ gtbl := gtbl_in (List.mem_of_getElem? (i := 391) (by decide +kernel)) rfl
theorem q392 : Cond.code yX6_ahead cX6_ahead 3 (some .int) ∈ gtbl := gtbl_in (List.mem_of_getElem? (i := 392) (by decide +kernel)) rfl
theorem q393 : Cond.methodLink RX6 142 yX6_areTwo ∈ gtbl := gtbl_in (List.mem_of_getElem? (i := 393) (by decide +kernel)) rfl
theorem q395 : Cond.instanceMethod yX6_areTwo ∈ gtbl := gtbl_in (List.mem_of_getElem? (i := 395) (by decide +kernel)) rfl
theorem q396 : Cond.code yX6_areTwo cX6_areTwo 3 (some .boolean) ∈ gtbl := gtbl_in (List.mem_of_getElem? (i := 396) (by decide +kernel)) rfl
theorem q397 : Cond.methodLink RX6 145 yX0_canBe ∈ gtbl := gtbl_in (List.mem_of_getElem? (i := 397) (by decide +kernel)) rfl
theorem q398 : Cond.instanceMethod yX0_canBe ∈ gtbl := gtbl_in (List.mem_of_getElem? (i := 398) (by decide +kernel)) rfl
theorem q399 : Cond.selects RX0 yX0_canBe yX0_canBe ∈ gtbl := gtbl_in (List.mem_of_getElem? (i := 399) (by decide +kernel)) rfl
theorem q400 : Cond.code yX0_canBe cX0_canBe 3 (some .boolean) ∈ gtbl := gtbl_in (List.mem_of_getElem? (i := 400) (by decide +kernel)) rfl
theorem q401 : Cond.methodLink RX0 37 yX0_widthsAllow ∈ gtbl := gtbl_in (List.mem_of_getElem? (i := 401) (by decide +kernel)) rfl
theorem q402 : Cond.instanceMethod yX0_widthsAllow ∈ gtbl := gtbl_in (List.mem_of_getElem? (i := 402) (by decide +kernel)) rfl
theorem q403 : Cond.selects RX0 yX0_widthsAllow yX0_widthsAllow ∈ gtbl := gtbl_in (List.mem_of_getElem? (i := 403) (by decide +kernel)) rfl
theorem q404 : Cond.code yX0_widthsAllow cX0_widthsAllow 3 (some .boolean) ∈ gtbl := gtbl_in (List.mem_of_getElem? (i := 404) (by decide +kernel)) rfl
theorem q405 : Cond.methodLink RX0 44 yX0_widthGap ∈ gtbl := gtbl_in (List.mem_of_getElem? (i := 405) (by decide +kernel)) rfl
theorem q406 : Cond.instanceMethod yX0_widthGap ∈ gtbl := gtbl_in (List.mem_of_getElem? (i := 406) (by decide +kernel)) rfl
theorem q407 : Cond.selects RX0 yX0_widthGap yX0_widthGap ∈ gtbl := gtbl_in (List.mem_of_getElem? (i := 407) (by decide +kernel)) rfl
theorem q408 : Cond.code yX0_widthGap cX0_widthGap 3 (some .int) ∈ gtbl := gtbl_in (List.mem_of_getElem? (i := 408) (by decide +kernel)) rfl
theorem q409 : Cond.methodLink RX0 61 yX1_trueWidth ∈ gtbl := gtbl_in (List.mem_of_getElem? (i := 409) (by decide +kernel)) rfl
theorem q410 : Cond.methodLink RX0 65 yJ9_abs_0f7a4 ∈ gtbl := gtbl_in (List.mem_of_getElem? (i := 410) (by decide +kernel)) rfl
theorem q411 : Cond.static yJ9_abs_0f7a4 ∈ gtbl := gtbl_in (List.mem_of_getElem? (i := 411) (by decide +kernel)) rfl
theorem q412 : Cond.code yJ9_abs_0f7a4 cJ9_abs_0f7a4 1 (some .int) ∈ gtbl := gtbl_in (List.mem_of_getElem? (i := 412) (by decide +kernel)) rfl
theorem q413 : Cond.methodLink RX0 41 yX0_marksAllow ∈ gtbl := gtbl_in (List.mem_of_getElem? (i := 413) (by decide +kernel)) rfl
theorem q414 : Cond.instanceMethod yX0_marksAllow ∈ gtbl := gtbl_in (List.mem_of_getElem? (i := 414) (by decide +kernel)) rfl
theorem q415 : Cond.selects RX0 yX0_marksAllow yX0_marksAllow ∈ gtbl := gtbl_in (List.mem_of_getElem? (i := 415) (by decide +kernel)) rfl
theorem q416 : Cond.code yX0_marksAllow cX0_marksAllow 3 (some .boolean) ∈ gtbl := gtbl_in (List.mem_of_getElem? (i := 416) (by decide +kernel)) rfl
theorem q417 : Cond.methodLink RX0 54 yX1_shown ∈ gtbl := gtbl_in (List.mem_of_getElem? (i := 417) (by decide +kernel)) rfl
theorem q418 : Cond.methodLink RX0 58 yX1_bare ∈ gtbl := gtbl_in (List.mem_of_getElem? (i := 418) (by decide +kernel)) rfl
theorem q419 : Cond.instanceMethod yX1_bare ∈ gtbl := gtbl_in (List.mem_of_getElem? (i := 419) (by decide +kernel)) rfl
theorem q420 : Cond.selects RX1 yX1_bare yX1_bare ∈ gtbl := gtbl_in (List.mem_of_getElem? (i := 420) (by decide +kernel)) rfl
theorem q421 : Cond.code yX1_bare cX1_bare 1 (some .long) ∈ gtbl := gtbl_in (List.mem_of_getElem? (i := 421) (by decide +kernel)) rfl
theorem q422 : Cond.methodLink RL 61 yX6_order ∈ gtbl := gtbl_in (List.mem_of_getElem? (i := 422) (by decide +kernel)) rfl
theorem q423 : Cond.instanceMethod yX6_order ∈ gtbl := gtbl_in (List.mem_of_getElem? (i := 423) (by decide +kernel)) rfl
theorem q424 : Cond.selects RX6 yX6_order yX6_order ∈ gtbl := gtbl_in (List.mem_of_getElem? (i := 424) (by decide +kernel)) rfl
theorem q425 : Cond.code yX6_order cX6_order 5 (some .int) ∈ gtbl := gtbl_in (List.mem_of_getElem? (i := 425) (by decide +kernel)) rfl
theorem q426 : Cond.methodLink RL 65 yX6_alike ∈ gtbl := gtbl_in (List.mem_of_getElem? (i := 426) (by decide +kernel)) rfl
theorem q427 : Cond.instanceMethod yX6_alike ∈ gtbl := gtbl_in (List.mem_of_getElem? (i := 427) (by decide +kernel)) rfl
theorem q428 : Cond.selects RX6 yX6_alike yX6_alike ∈ gtbl := gtbl_in (List.mem_of_getElem? (i := 428) (by decide +kernel)) rfl
theorem q429 : Cond.code yX6_alike cX6_alike 5 (some .int) ∈ gtbl := gtbl_in (List.mem_of_getElem? (i := 429) (by decide +kernel)) rfl
theorem q430 : Cond.methodLink RX6 148 yX1_bare ∈ gtbl := gtbl_in (List.mem_of_getElem? (i := 430) (by decide +kernel)) rfl
theorem q431 : Cond.methodLink RL 69 yX6_slackFor ∈ gtbl := gtbl_in (List.mem_of_getElem? (i := 431) (by decide +kernel)) rfl
theorem q432 : Cond.instanceMethod yX6_slackFor ∈ gtbl := gtbl_in (List.mem_of_getElem? (i := 432) (by decide +kernel)) rfl
theorem q433 : Cond.selects RX6 yX6_slackFor yX6_slackFor ∈ gtbl := gtbl_in (List.mem_of_getElem? (i := 433) (by decide +kernel)) rfl
theorem q434 : Cond.code yX6_slackFor cX6_slackFor 4 (some .int) ∈ gtbl := gtbl_in (List.mem_of_getElem? (i := 434) (by decide +kernel)) rfl
theorem q435 : Cond.methodLink RX6 151 yX0_marksAllow ∈ gtbl := gtbl_in (List.mem_of_getElem? (i := 435) (by decide +kernel)) rfl
theorem q436 : Cond.constant RX6 154 (-1000000004) ∈ gtbl := gtbl_in (List.mem_of_getElem? (i := 436) (by decide +kernel)) rfl
theorem q437 : Cond.methodLink RX6 155 yX0_widthGap ∈ gtbl := gtbl_in (List.mem_of_getElem? (i := 437) (by decide +kernel)) rfl
theorem q438 : Cond.methodLink RL 73 yX6_came ∈ gtbl := gtbl_in (List.mem_of_getElem? (i := 438) (by decide +kernel)) rfl
theorem q439 : Cond.instanceMethod yX6_came ∈ gtbl := gtbl_in (List.mem_of_getElem? (i := 439) (by decide +kernel)) rfl
theorem q440 : Cond.selects RX6 yX6_came yX6_came ∈ gtbl := gtbl_in (List.mem_of_getElem? (i := 440) (by decide +kernel)) rfl
theorem q441 : Cond.code yX6_came cX6_came 3 (some .int) ∈ gtbl := gtbl_in (List.mem_of_getElem? (i := 441) (by decide +kernel)) rfl
theorem q442 : Cond.constant RX6 159 (-1000000005) ∈ gtbl := gtbl_in (List.mem_of_getElem? (i := 442) (by decide +kernel)) rfl
theorem q443 : Cond.methodLink RL 77 yX6_ring ∈ gtbl := gtbl_in (List.mem_of_getElem? (i := 443) (by decide +kernel)) rfl
theorem q444 : Cond.instanceMethod yX6_ring ∈ gtbl := gtbl_in (List.mem_of_getElem? (i := 444) (by decide +kernel)) rfl
theorem q445 : Cond.selects RX6 yX6_ring yX6_ring ∈ gtbl := gtbl_in (List.mem_of_getElem? (i := 445) (by decide +kernel)) rfl
theorem q446 : Cond.code yX6_ring cX6_ring 2 (some .int) ∈ gtbl := gtbl_in (List.mem_of_getElem? (i := 446) (by decide +kernel)) rfl
theorem q447 : Cond.methodLink RX6 160 yX0_hasAll ∈ gtbl := gtbl_in (List.mem_of_getElem? (i := 447) (by decide +kernel)) rfl
theorem q448 : Cond.instanceMethod yX0_hasAll ∈ gtbl := gtbl_in (List.mem_of_getElem? (i := 448) (by decide +kernel)) rfl
theorem q449 : Cond.selects RX0 yX0_hasAll yX0_hasAll ∈ gtbl := gtbl_in (List.mem_of_getElem? (i := 449) (by decide +kernel)) rfl
theorem q450 : Cond.code yX0_hasAll cX0_hasAll 2 (some .boolean) ∈ gtbl := gtbl_in (List.mem_of_getElem? (i := 450) (by decide +kernel)) rfl
theorem q451 : Cond.methodLink RX6 163 yX2_weigh ∈ gtbl := gtbl_in (List.mem_of_getElem? (i := 451) (by decide +kernel)) rfl
theorem q452 : Cond.instanceMethod yX2_weigh ∈ gtbl := gtbl_in (List.mem_of_getElem? (i := 452) (by decide +kernel)) rfl
theorem q453 : Cond.selects RX2 yX2_weigh yX2_weigh ∈ gtbl := gtbl_in (List.mem_of_getElem? (i := 453) (by decide +kernel)) rfl
theorem q454 : Cond.code yX2_weigh cX2_weigh 3 none ∈ gtbl := gtbl_in (List.mem_of_getElem? (i := 454) (by decide +kernel)) rfl
theorem q455 : Cond.methodLink RX2 43 yX2_weighPair ∈ gtbl := gtbl_in (List.mem_of_getElem? (i := 455) (by decide +kernel)) rfl
theorem q457 : Cond.instanceMethod yX2_weighPair ∈ gtbl := gtbl_in (List.mem_of_getElem? (i := 457) (by decide +kernel)) rfl
theorem q458 : Cond.code yX2_weighPair cX2_weighPair 7 none ∈ gtbl := gtbl_in (List.mem_of_getElem? (i := 458) (by decide +kernel)) rfl
theorem q459 : Cond.methodLink RX2 47 yX0_widthsAllow ∈ gtbl := gtbl_in (List.mem_of_getElem? (i := 459) (by decide +kernel)) rfl
theorem q460 : Cond.methodLink RX2 51 yX0_marksAllow ∈ gtbl := gtbl_in (List.mem_of_getElem? (i := 460) (by decide +kernel)) rfl
theorem q461 : Cond.methodLink RX2 54 yX0_isEarlier ∈ gtbl := gtbl_in (List.mem_of_getElem? (i := 461) (by decide +kernel)) rfl
theorem q462 : Cond.instanceMethod yX0_isEarlier ∈ gtbl := gtbl_in (List.mem_of_getElem? (i := 462) (by decide +kernel)) rfl
theorem q463 : Cond.selects RX0 yX0_isEarlier yX0_isEarlier ∈ gtbl := gtbl_in (List.mem_of_getElem? (i := 463) (by decide +kernel)) rfl
theorem q464 : Cond.code yX0_isEarlier cX0_isEarlier 5 (some .boolean) ∈ gtbl := gtbl_in (List.mem_of_getElem? (i := 464) (by decide +kernel)) rfl
theorem q465 : Cond.methodLink RX2 57 yX2_note ∈ gtbl := gtbl_in (List.mem_of_getElem? (i := 465) (by decide +kernel)) rfl
theorem q466 : Cond.static yX2_note ∈ gtbl := gtbl_in (List.mem_of_getElem? (i := 466) (by decide +kernel)) rfl
theorem q467 : Cond.code yX2_note cX2_note 5 none ∈ gtbl := gtbl_in (List.mem_of_getElem? (i := 467) (by decide +kernel)) rfl
theorem q468 : Cond.methodLink RX6 166 yX2_isRing ∈ gtbl := gtbl_in (List.mem_of_getElem? (i := 468) (by decide +kernel)) rfl
theorem q469 : Cond.instanceMethod yX2_isRing ∈ gtbl := gtbl_in (List.mem_of_getElem? (i := 469) (by decide +kernel)) rfl
theorem q470 : Cond.selects RX2 yX2_isRing yX2_isRing ∈ gtbl := gtbl_in (List.mem_of_getElem? (i := 470) (by decide +kernel)) rfl
theorem q471 : Cond.code yX2_isRing cX2_isRing 3 (some .boolean) ∈ gtbl := gtbl_in (List.mem_of_getElem? (i := 471) (by decide +kernel)) rfl
theorem q472 : Cond.methodLink RX2 61 yX2_isIn ∈ gtbl := gtbl_in (List.mem_of_getElem? (i := 472) (by decide +kernel)) rfl
theorem q473 : Cond.static yX2_isIn ∈ gtbl := gtbl_in (List.mem_of_getElem? (i := 473) (by decide +kernel)) rfl
theorem q474 : Cond.code yX2_isIn cX2_isIn 2 (some .boolean) ∈ gtbl := gtbl_in (List.mem_of_getElem? (i := 474) (by decide +kernel)) rfl
theorem q475 : Cond.methodLink RX2 64 yX2_without ∈ gtbl := gtbl_in (List.mem_of_getElem? (i := 475) (by decide +kernel)) rfl
theorem q476 : Cond.static yX2_without ∈ gtbl := gtbl_in (List.mem_of_getElem? (i := 476) (by decide +kernel)) rfl
theorem q477 : Cond.code yX2_without cX2_without 2 (some .int) ∈ gtbl := gtbl_in (List.mem_of_getElem? (i := 477) (by decide +kernel)) rfl
theorem q478 : Cond.methodLink RL 81 yX6_most ∈ gtbl := gtbl_in (List.mem_of_getElem? (i := 478) (by decide +kernel)) rfl
theorem q479 : Cond.instanceMethod yX6_most ∈ gtbl := gtbl_in (List.mem_of_getElem? (i := 479) (by decide +kernel)) rfl
theorem q480 : Cond.selects RX6 yX6_most yX6_most ∈ gtbl := gtbl_in (List.mem_of_getElem? (i := 480) (by decide +kernel)) rfl
theorem q481 : Cond.code yX6_most cX6_most 2 (some .int) ∈ gtbl := gtbl_in (List.mem_of_getElem? (i := 481) (by decide +kernel)) rfl
theorem q482 : Cond.methodLink RX6 169 yX2_largestRing ∈ gtbl := gtbl_in (List.mem_of_getElem? (i := 482) (by decide +kernel)) rfl
theorem q483 : Cond.instanceMethod yX2_largestRing ∈ gtbl := gtbl_in (List.mem_of_getElem? (i := 483) (by decide +kernel)) rfl
theorem q484 : Cond.selects RX2 yX2_largestRing yX2_largestRing ∈ gtbl := gtbl_in (List.mem_of_getElem? (i := 484) (by decide +kernel)) rfl
theorem q485 : Cond.code yX2_largestRing cX2_largestRing 2 (some .int) ∈ gtbl := gtbl_in (List.mem_of_getElem? (i := 485) (by decide +kernel)) rfl
theorem q486 : Cond.methodLink RX2 71 yX2_seekLargest ∈ gtbl := gtbl_in (List.mem_of_getElem? (i := 486) (by decide +kernel)) rfl
theorem q488 : Cond.instanceMethod yX2_seekLargest ∈ gtbl := gtbl_in (List.mem_of_getElem? (i := 488) (by decide +kernel)) rfl
theorem q489 : Cond.code yX2_seekLargest cX2_seekLargest 4 none ∈ gtbl := gtbl_in (List.mem_of_getElem? (i := 489) (by decide +kernel)) rfl
theorem q490 : Cond.methodLink RX2 75 yJ6_bitCount_0f7a4 ∈ gtbl := gtbl_in (List.mem_of_getElem? (i := 490) (by decide +kernel)) rfl
theorem q491 : Cond.static yJ6_bitCount_0f7a4 ∈ gtbl := gtbl_in (List.mem_of_getElem? (i := 491) (by decide +kernel)) rfl
theorem q492 : Cond.code yJ6_bitCount_0f7a4 cJ6_bitCount_0f7a4 1 (some .int) ∈ gtbl := gtbl_in (List.mem_of_getElem? (i := 492) (by decide +kernel)) rfl
theorem q493 : Cond.constant RJ6 265 1431655765 ∈ gtbl := gtbl_in (List.mem_of_getElem? (i := 493) (by decide +kernel)) rfl
theorem q494 : Cond.constant RJ6 266 858993459 ∈ gtbl := gtbl_in (List.mem_of_getElem? (i := 494) (by decide +kernel)) rfl
theorem q495 : Cond.constant RJ6 267 252645135 ∈ gtbl := gtbl_in (List.mem_of_getElem? (i := 495) (by decide +kernel)) rfl
theorem q496 : Cond.methodLink RX6 172 yJ6_bitCount_0f7a4 ∈ gtbl := gtbl_in (List.mem_of_getElem? (i := 496) (by decide +kernel)) rfl
theorem q497 : Cond.methodLink RL 85 yX6_best ∈ gtbl := gtbl_in (List.mem_of_getElem? (i := 497) (by decide +kernel)) rfl
theorem q498 : Cond.instanceMethod yX6_best ∈ gtbl := gtbl_in (List.mem_of_getElem? (i := 498) (by decide +kernel)) rfl
theorem q499 : Cond.selects RX6 yX6_best yX6_best ∈ gtbl := gtbl_in (List.mem_of_getElem? (i := 499) (by decide +kernel)) rfl
theorem q500 : Cond.code yX6_best cX6_best 2 (some .int) ∈ gtbl := gtbl_in (List.mem_of_getElem? (i := 500) (by decide +kernel)) rfl
theorem q501 : Cond.methodLink RL 89 yX6_fewest ∈ gtbl := gtbl_in (List.mem_of_getElem? (i := 501) (by decide +kernel)) rfl
theorem q502 : Cond.instanceMethod yX6_fewest ∈ gtbl := gtbl_in (List.mem_of_getElem? (i := 502) (by decide +kernel)) rfl
theorem q503 : Cond.selects RX6 yX6_fewest yX6_fewest ∈ gtbl := gtbl_in (List.mem_of_getElem? (i := 503) (by decide +kernel)) rfl
theorem q504 : Cond.code yX6_fewest cX6_fewest 2 (some .int) ∈ gtbl := gtbl_in (List.mem_of_getElem? (i := 504) (by decide +kernel)) rfl
theorem q505 : Cond.methodLink RX6 176 yX2_fewestRings ∈ gtbl := gtbl_in (List.mem_of_getElem? (i := 505) (by decide +kernel)) rfl
theorem q506 : Cond.instanceMethod yX2_fewestRings ∈ gtbl := gtbl_in (List.mem_of_getElem? (i := 506) (by decide +kernel)) rfl
theorem q507 : Cond.selects RX2 yX2_fewestRings yX2_fewestRings ∈ gtbl := gtbl_in (List.mem_of_getElem? (i := 507) (by decide +kernel)) rfl
theorem q508 : Cond.code yX2_fewestRings cX2_fewestRings 2 (some .int) ∈ gtbl := gtbl_in (List.mem_of_getElem? (i := 508) (by decide +kernel)) rfl
theorem q509 : Cond.methodLink RX2 84 yX2_deal ∈ gtbl := gtbl_in (List.mem_of_getElem? (i := 509) (by decide +kernel)) rfl
theorem q511 : Cond.instanceMethod yX2_deal ∈ gtbl := gtbl_in (List.mem_of_getElem? (i := 511) (by decide +kernel)) rfl
theorem q512 : Cond.code yX2_deal cX2_deal 5 none ∈ gtbl := gtbl_in (List.mem_of_getElem? (i := 512) (by decide +kernel)) rfl
theorem q513 : Cond.methodLink RL 93 yX6_alone ∈ gtbl := gtbl_in (List.mem_of_getElem? (i := 513) (by decide +kernel)) rfl
theorem q514 : Cond.instanceMethod yX6_alone ∈ gtbl := gtbl_in (List.mem_of_getElem? (i := 514) (by decide +kernel)) rfl
theorem q515 : Cond.selects RX6 yX6_alone yX6_alone ∈ gtbl := gtbl_in (List.mem_of_getElem? (i := 515) (by decide +kernel)) rfl
theorem q516 : Cond.code yX6_alone cX6_alone 2 (some .int) ∈ gtbl := gtbl_in (List.mem_of_getElem? (i := 516) (by decide +kernel)) rfl
theorem q517 : Cond.methodLink RX6 179 yX2_loners ∈ gtbl := gtbl_in (List.mem_of_getElem? (i := 517) (by decide +kernel)) rfl
theorem q518 : Cond.instanceMethod yX2_loners ∈ gtbl := gtbl_in (List.mem_of_getElem? (i := 518) (by decide +kernel)) rfl
theorem q519 : Cond.selects RX2 yX2_loners yX2_loners ∈ gtbl := gtbl_in (List.mem_of_getElem? (i := 519) (by decide +kernel)) rfl
theorem q520 : Cond.code yX2_loners cX2_loners 4 (some .int) ∈ gtbl := gtbl_in (List.mem_of_getElem? (i := 520) (by decide +kernel)) rfl
theorem q521 : Cond.methodLink RL 97 yX6_orders ∈ gtbl := gtbl_in (List.mem_of_getElem? (i := 521) (by decide +kernel)) rfl
theorem q522 : Cond.instanceMethod yX6_orders ∈ gtbl := gtbl_in (List.mem_of_getElem? (i := 522) (by decide +kernel)) rfl
theorem q523 : Cond.selects RX6 yX6_orders yX6_orders ∈ gtbl := gtbl_in (List.mem_of_getElem? (i := 523) (by decide +kernel)) rfl
theorem q524 : Cond.code yX6_orders cX6_orders 2 (some .int) ∈ gtbl := gtbl_in (List.mem_of_getElem? (i := 524) (by decide +kernel)) rfl
theorem q525 : Cond.constant RX6 182 (-1000000007) ∈ gtbl := gtbl_in (List.mem_of_getElem? (i := 525) (by decide +kernel)) rfl
theorem q526 : Cond.methodLink RX6 183 yX2_howManyOrders ∈ gtbl := gtbl_in (List.mem_of_getElem? (i := 526) (by decide +kernel)) rfl
theorem q527 : Cond.instanceMethod yX2_howManyOrders ∈ gtbl := gtbl_in (List.mem_of_getElem? (i := 527) (by decide +kernel)) rfl
theorem q528 : Cond.selects RX2 yX2_howManyOrders yX2_howManyOrders ∈ gtbl := gtbl_in (List.mem_of_getElem? (i := 528) (by decide +kernel)) rfl
theorem q529 : Cond.code yX2_howManyOrders cX2_howManyOrders 2 (some .int) ∈ gtbl := gtbl_in (List.mem_of_getElem? (i := 529) (by decide +kernel)) rfl
theorem q530 : Cond.methodLink RX2 87 yX2_countOrders ∈ gtbl := gtbl_in (List.mem_of_getElem? (i := 530) (by decide +kernel)) rfl
theorem q532 : Cond.instanceMethod yX2_countOrders ∈ gtbl := gtbl_in (List.mem_of_getElem? (i := 532) (by decide +kernel)) rfl
theorem q533 : Cond.code yX2_countOrders cX2_countOrders 5 none ∈ gtbl := gtbl_in (List.mem_of_getElem? (i := 533) (by decide +kernel)) rfl
theorem q534 : Cond.methodLink RX2 94 yX2_gatherMembers ∈ gtbl := gtbl_in (List.mem_of_getElem? (i := 534) (by decide +kernel)) rfl
theorem q536 : Cond.instanceMethod yX2_gatherMembers ∈ gtbl := gtbl_in (List.mem_of_getElem? (i := 536) (by decide +kernel)) rfl
theorem q537 : Cond.code yX2_gatherMembers cX2_gatherMembers 4 none ∈ gtbl := gtbl_in (List.mem_of_getElem? (i := 537) (by decide +kernel)) rfl
theorem q538 : Cond.methodLink RX2 97 yX2_canLead ∈ gtbl := gtbl_in (List.mem_of_getElem? (i := 538) (by decide +kernel)) rfl
theorem q540 : Cond.instanceMethod yX2_canLead ∈ gtbl := gtbl_in (List.mem_of_getElem? (i := 540) (by decide +kernel)) rfl
theorem q541 : Cond.code yX2_canLead cX2_canLead 3 (some .boolean) ∈ gtbl := gtbl_in (List.mem_of_getElem? (i := 541) (by decide +kernel)) rfl
theorem q542 : Cond.methodLink RL 101 yX6_ith ∈ gtbl := gtbl_in (List.mem_of_getElem? (i := 542) (by decide +kernel)) rfl
theorem q543 : Cond.instanceMethod yX6_ith ∈ gtbl := gtbl_in (List.mem_of_getElem? (i := 543) (by decide +kernel)) rfl
theorem q544 : Cond.selects RX6 yX6_ith yX6_ith ∈ gtbl := gtbl_in (List.mem_of_getElem? (i := 544) (by decide +kernel)) rfl
theorem q545 : Cond.code yX6_ith cX6_ith 3 (some .int) ∈ gtbl := gtbl_in (List.mem_of_getElem? (i := 545) (by decide +kernel)) rfl
theorem q546 : Cond.methodLink RX6 186 yX2_inFirstOrder ∈ gtbl := gtbl_in (List.mem_of_getElem? (i := 546) (by decide +kernel)) rfl
theorem q547 : Cond.instanceMethod yX2_inFirstOrder ∈ gtbl := gtbl_in (List.mem_of_getElem? (i := 547) (by decide +kernel)) rfl
theorem q548 : Cond.selects RX2 yX2_inFirstOrder yX2_inFirstOrder ∈ gtbl := gtbl_in (List.mem_of_getElem? (i := 548) (by decide +kernel)) rfl
theorem q549 : Cond.code yX2_inFirstOrder cX2_inFirstOrder 6 (some .int) ∈ gtbl := gtbl_in (List.mem_of_getElem? (i := 549) (by decide +kernel)) rfl
theorem q550 : Cond.methodLink RX2 100 yX2_firstLeader ∈ gtbl := gtbl_in (List.mem_of_getElem? (i := 550) (by decide +kernel)) rfl
theorem q552 : Cond.instanceMethod yX2_firstLeader ∈ gtbl := gtbl_in (List.mem_of_getElem? (i := 552) (by decide +kernel)) rfl
theorem q553 : Cond.code yX2_firstLeader cX2_firstLeader 3 (some .int) ∈ gtbl := gtbl_in (List.mem_of_getElem? (i := 553) (by decide +kernel)) rfl
theorem q554 : Cond.methodLink RX6 189 yX6_printOr ∈ gtbl := gtbl_in (List.mem_of_getElem? (i := 554) (by decide +kernel)) rfl
theorem q556 : Cond.instanceMethod yX6_printOr ∈ gtbl := gtbl_in (List.mem_of_getElem? (i := 556) (by decide +kernel)) rfl
theorem q557 : Cond.code yX6_printOr cX6_printOr 3 (some .int) ∈ gtbl := gtbl_in (List.mem_of_getElem? (i := 557) (by decide +kernel)) rfl
theorem q558 : Cond.methodLink RL 105 yX6_falseDate ∈ gtbl := gtbl_in (List.mem_of_getElem? (i := 558) (by decide +kernel)) rfl
theorem q559 : Cond.instanceMethod yX6_falseDate ∈ gtbl := gtbl_in (List.mem_of_getElem? (i := 559) (by decide +kernel)) rfl
theorem q560 : Cond.selects RX6 yX6_falseDate yX6_falseDate ∈ gtbl := gtbl_in (List.mem_of_getElem? (i := 560) (by decide +kernel)) rfl
theorem q561 : Cond.code yX6_falseDate cX6_falseDate 2 (some .int) ∈ gtbl := gtbl_in (List.mem_of_getElem? (i := 561) (by decide +kernel)) rfl
theorem q562 : Cond.methodLink RX6 192 yX2_misdated ∈ gtbl := gtbl_in (List.mem_of_getElem? (i := 562) (by decide +kernel)) rfl
theorem q563 : Cond.instanceMethod yX2_misdated ∈ gtbl := gtbl_in (List.mem_of_getElem? (i := 563) (by decide +kernel)) rfl
theorem q564 : Cond.selects RX2 yX2_misdated yX2_misdated ∈ gtbl := gtbl_in (List.mem_of_getElem? (i := 564) (by decide +kernel)) rfl
theorem q565 : Cond.code yX2_misdated cX2_misdated 4 (some .int) ∈ gtbl := gtbl_in (List.mem_of_getElem? (i := 565) (by decide +kernel)) rfl
theorem q566 : Cond.methodLink RX2 103 yX2_rowByYears ∈ gtbl := gtbl_in (List.mem_of_getElem? (i := 566) (by decide +kernel)) rfl
theorem q568 : Cond.instanceMethod yX2_rowByYears ∈ gtbl := gtbl_in (List.mem_of_getElem? (i := 568) (by decide +kernel)) rfl
theorem q569 : Cond.code yX2_rowByYears cX2_rowByYears 5 (some .int) ∈ gtbl := gtbl_in (List.mem_of_getElem? (i := 569) (by decide +kernel)) rfl
theorem q570 : Cond.methodLink RX2 106 yX2_isRing ∈ gtbl := gtbl_in (List.mem_of_getElem? (i := 570) (by decide +kernel)) rfl
theorem q571 : Cond.methodLink RX2 110 yX2_fitsSomewhere ∈ gtbl := gtbl_in (List.mem_of_getElem? (i := 571) (by decide +kernel)) rfl
theorem q573 : Cond.instanceMethod yX2_fitsSomewhere ∈ gtbl := gtbl_in (List.mem_of_getElem? (i := 573) (by decide +kernel)) rfl
theorem q574 : Cond.code yX2_fitsSomewhere cX2_fitsSomewhere 7 (some .boolean) ∈ gtbl := gtbl_in (List.mem_of_getElem? (i := 574) (by decide +kernel)) rfl
theorem q575 : Cond.methodLink RL 109 yX6_had ∈ gtbl := gtbl_in (List.mem_of_getElem? (i := 575) (by decide +kernel)) rfl
theorem q576 : Cond.instanceMethod yX6_had ∈ gtbl := gtbl_in (List.mem_of_getElem? (i := 576) (by decide +kernel)) rfl
theorem q577 : Cond.selects RX6 yX6_had yX6_had ∈ gtbl := gtbl_in (List.mem_of_getElem? (i := 577) (by decide +kernel)) rfl
theorem q578 : Cond.code yX6_had cX6_had 3 (some .long) ∈ gtbl := gtbl_in (List.mem_of_getElem? (i := 578) (by decide +kernel)) rfl
theorem q579 : Cond.methodLink RX6 195 yX2_surelyHad ∈ gtbl := gtbl_in (List.mem_of_getElem? (i := 579) (by decide +kernel)) rfl
theorem q580 : Cond.instanceMethod yX2_surelyHad ∈ gtbl := gtbl_in (List.mem_of_getElem? (i := 580) (by decide +kernel)) rfl
theorem q581 : Cond.selects RX2 yX2_surelyHad yX2_surelyHad ∈ gtbl := gtbl_in (List.mem_of_getElem? (i := 581) (by decide +kernel)) rfl
theorem q582 : Cond.code yX2_surelyHad cX2_surelyHad 8 (some .long) ∈ gtbl := gtbl_in (List.mem_of_getElem? (i := 582) (by decide +kernel)) rfl
theorem q583 : Cond.methodLink RX2 126 yX1_shown ∈ gtbl := gtbl_in (List.mem_of_getElem? (i := 583) (by decide +kernel)) rfl
theorem q584 : Cond.methodLink RL 113 yX6_hadNot ∈ gtbl := gtbl_in (List.mem_of_getElem? (i := 584) (by decide +kernel)) rfl
theorem q585 : Cond.instanceMethod yX6_hadNot ∈ gtbl := gtbl_in (List.mem_of_getElem? (i := 585) (by decide +kernel)) rfl
theorem q586 : Cond.selects RX6 yX6_hadNot yX6_hadNot ∈ gtbl := gtbl_in (List.mem_of_getElem? (i := 586) (by decide +kernel)) rfl
theorem q587 : Cond.code yX6_hadNot cX6_hadNot 3 (some .long) ∈ gtbl := gtbl_in (List.mem_of_getElem? (i := 587) (by decide +kernel)) rfl
theorem q588 : Cond.methodLink RX6 199 yX2_surelyHadNot ∈ gtbl := gtbl_in (List.mem_of_getElem? (i := 588) (by decide +kernel)) rfl
theorem q589 : Cond.instanceMethod yX2_surelyHadNot ∈ gtbl := gtbl_in (List.mem_of_getElem? (i := 589) (by decide +kernel)) rfl
theorem q590 : Cond.selects RX2 yX2_surelyHadNot yX2_surelyHadNot ∈ gtbl := gtbl_in (List.mem_of_getElem? (i := 590) (by decide +kernel)) rfl
theorem q591 : Cond.code yX2_surelyHadNot cX2_surelyHadNot 8 (some .long) ∈ gtbl := gtbl_in (List.mem_of_getElem? (i := 591) (by decide +kernel)) rfl
theorem q592 : Cond.methodLink RX2 130 yX1_bare ∈ gtbl := gtbl_in (List.mem_of_getElem? (i := 592) (by decide +kernel)) rfl
theorem q593 : Cond.methodLink RL 117 yX6_castOf ∈ gtbl := gtbl_in (List.mem_of_getElem? (i := 593) (by decide +kernel)) rfl
theorem q594 : Cond.instanceMethod yX6_castOf ∈ gtbl := gtbl_in (List.mem_of_getElem? (i := 594) (by decide +kernel)) rfl
theorem q595 : Cond.selects RX6 yX6_castOf yX6_castOf ∈ gtbl := gtbl_in (List.mem_of_getElem? (i := 595) (by decide +kernel)) rfl
theorem q596 : Cond.code yX6_castOf cX6_castOf 2 (some .int) ∈ gtbl := gtbl_in (List.mem_of_getElem? (i := 596) (by decide +kernel)) rfl
theorem q597 : Cond.methodLink RX6 202 yX0_sourceOf ∈ gtbl := gtbl_in (List.mem_of_getElem? (i := 597) (by decide +kernel)) rfl
theorem q598 : Cond.instanceMethod yX0_sourceOf ∈ gtbl := gtbl_in (List.mem_of_getElem? (i := 598) (by decide +kernel)) rfl
theorem q599 : Cond.selects RX0 yX0_sourceOf yX0_sourceOf ∈ gtbl := gtbl_in (List.mem_of_getElem? (i := 599) (by decide +kernel)) rfl
theorem q600 : Cond.code yX0_sourceOf cX0_sourceOf 3 (some .int) ∈ gtbl := gtbl_in (List.mem_of_getElem? (i := 600) (by decide +kernel)) rfl
theorem q601 : Cond.methodLink RX0 74 yX0_has ∈ gtbl := gtbl_in (List.mem_of_getElem? (i := 601) (by decide +kernel)) rfl
theorem q602 : Cond.methodLinkNest RX0 78 yX6_isUnder RX6 ∈ lw_tbl := List.mem_of_getElem? (i := 602) (by decide +kernel)
theorem q603 : Cond.methodLink RX0 81 yX0_canBeCast ∈ gtbl := gtbl_in (List.mem_of_getElem? (i := 603) (by decide +kernel)) rfl
theorem q604 : Cond.static yX0_canBeCast ∈ gtbl := gtbl_in (List.mem_of_getElem? (i := 604) (by decide +kernel)) rfl
theorem q605 : Cond.code yX0_canBeCast cX0_canBeCast 2 (some .boolean) ∈ gtbl := gtbl_in (List.mem_of_getElem? (i := 605) (by decide +kernel)) rfl
theorem q606 : Cond.methodLink RL 121 yX6_deep ∈ gtbl := gtbl_in (List.mem_of_getElem? (i := 606) (by decide +kernel)) rfl
theorem q607 : Cond.instanceMethod yX6_deep ∈ gtbl := gtbl_in (List.mem_of_getElem? (i := 607) (by decide +kernel)) rfl
theorem q608 : Cond.selects RX6 yX6_deep yX6_deep ∈ gtbl := gtbl_in (List.mem_of_getElem? (i := 608) (by decide +kernel)) rfl
theorem q609 : Cond.code yX6_deep cX6_deep 4 (some .int) ∈ gtbl := gtbl_in (List.mem_of_getElem? (i := 609) (by decide +kernel)) rfl
theorem q610 : Cond.methodLink RL 125 yX6_tell ∈ gtbl := gtbl_in (List.mem_of_getElem? (i := 610) (by decide +kernel)) rfl
theorem q611 : Cond.instanceMethod yX6_tell ∈ gtbl := gtbl_in (List.mem_of_getElem? (i := 611) (by decide +kernel)) rfl
theorem q612 : Cond.selects RX6 yX6_tell yX6_tell ∈ gtbl := gtbl_in (List.mem_of_getElem? (i := 612) (by decide +kernel)) rfl
theorem q613 : Cond.code yX6_tell cX6_tell 1 (some .int) ∈ gtbl := gtbl_in (List.mem_of_getElem? (i := 613) (by decide +kernel)) rfl
theorem q614 : Cond.methodLink RX6 205 yX2_mostTelling ∈ gtbl := gtbl_in (List.mem_of_getElem? (i := 614) (by decide +kernel)) rfl
theorem q615 : Cond.instanceMethod yX2_mostTelling ∈ gtbl := gtbl_in (List.mem_of_getElem? (i := 615) (by decide +kernel)) rfl
theorem q616 : Cond.selects RX2 yX2_mostTelling yX2_mostTelling ∈ gtbl := gtbl_in (List.mem_of_getElem? (i := 616) (by decide +kernel)) rfl
theorem q617 : Cond.code yX2_mostTelling cX2_mostTelling 9 (some .int) ∈ gtbl := gtbl_in (List.mem_of_getElem? (i := 617) (by decide +kernel)) rfl
theorem q618 : Cond.methodLink RX2 133 yX2_fewestRings ∈ gtbl := gtbl_in (List.mem_of_getElem? (i := 618) (by decide +kernel)) rfl
theorem q619 : Cond.methodLink RX2 140 yX2_weighOne ∈ gtbl := gtbl_in (List.mem_of_getElem? (i := 619) (by decide +kernel)) rfl
theorem q621 : Cond.instanceMethod yX2_weighOne ∈ gtbl := gtbl_in (List.mem_of_getElem? (i := 621) (by decide +kernel)) rfl
theorem q622 : Cond.code yX2_weighOne cX2_weighOne 3 none ∈ gtbl := gtbl_in (List.mem_of_getElem? (i := 622) (by decide +kernel)) rfl
theorem q623 : Cond.methodLink RX2 143 yJ9_abs_0f7a4 ∈ gtbl := gtbl_in (List.mem_of_getElem? (i := 623) (by decide +kernel)) rfl
theorem q624 : Cond.methodLink RL 130 yX6_kind ∈ gtbl := gtbl_in (List.mem_of_getElem? (i := 624) (by decide +kernel)) rfl
theorem q625 : Cond.instanceMethod yX6_kind ∈ gtbl := gtbl_in (List.mem_of_getElem? (i := 625) (by decide +kernel)) rfl
theorem q626 : Cond.selects RX6 yX6_kind yX6_kind ∈ gtbl := gtbl_in (List.mem_of_getElem? (i := 626) (by decide +kernel)) rfl
theorem q627 : Cond.code yX6_kind cX6_kind 2 (some .int) ∈ gtbl := gtbl_in (List.mem_of_getElem? (i := 627) (by decide +kernel)) rfl
theorem q628 : Cond.methodLink RX6 208 yX2_likeliestKind ∈ gtbl := gtbl_in (List.mem_of_getElem? (i := 628) (by decide +kernel)) rfl
theorem q629 : Cond.instanceMethod yX2_likeliestKind ∈ gtbl := gtbl_in (List.mem_of_getElem? (i := 629) (by decide +kernel)) rfl
theorem q630 : Cond.selects RX2 yX2_likeliestKind yX2_likeliestKind ∈ gtbl := gtbl_in (List.mem_of_getElem? (i := 630) (by decide +kernel)) rfl
theorem q631 : Cond.code yX2_likeliestKind cX2_likeliestKind 8 (some .int) ∈ gtbl := gtbl_in (List.mem_of_getElem? (i := 631) (by decide +kernel)) rfl
theorem q632 : Cond.methodLink RL 134 yX6_pairs ∈ gtbl := gtbl_in (List.mem_of_getElem? (i := 632) (by decide +kernel)) rfl
theorem q633 : Cond.instanceMethod yX6_pairs ∈ gtbl := gtbl_in (List.mem_of_getElem? (i := 633) (by decide +kernel)) rfl
theorem q634 : Cond.selects RX6 yX6_pairs yX6_pairs ∈ gtbl := gtbl_in (List.mem_of_getElem? (i := 634) (by decide +kernel)) rfl
theorem q635 : Cond.code yX6_pairs cX6_pairs 1 (some .int) ∈ gtbl := gtbl_in (List.mem_of_getElem? (i := 635) (by decide +kernel)) rfl
theorem q636 : Cond.methodLink RX6 211 yX2_howManyPairs ∈ gtbl := gtbl_in (List.mem_of_getElem? (i := 636) (by decide +kernel)) rfl
theorem q637 : Cond.instanceMethod yX2_howManyPairs ∈ gtbl := gtbl_in (List.mem_of_getElem? (i := 637) (by decide +kernel)) rfl
theorem q638 : Cond.selects RX2 yX2_howManyPairs yX2_howManyPairs ∈ gtbl := gtbl_in (List.mem_of_getElem? (i := 638) (by decide +kernel)) rfl
theorem q639 : Cond.code yX2_howManyPairs cX2_howManyPairs 3 (some .int) ∈ gtbl := gtbl_in (List.mem_of_getElem? (i := 639) (by decide +kernel)) rfl
theorem q640 : Cond.methodLink RL 138 yX6_feed ∈ gtbl := gtbl_in (List.mem_of_getElem? (i := 640) (by decide +kernel)) rfl
theorem q641 : Cond.instanceMethod yX6_feed ∈ gtbl := gtbl_in (List.mem_of_getElem? (i := 641) (by decide +kernel)) rfl
theorem q642 : Cond.selects RX6 yX6_feed yX6_feed ∈ gtbl := gtbl_in (List.mem_of_getElem? (i := 642) (by decide +kernel)) rfl
theorem q643 : Cond.code yX6_feed cX6_feed 4 (some .int) ∈ gtbl := gtbl_in (List.mem_of_getElem? (i := 643) (by decide +kernel)) rfl
theorem q644 : Cond.methodLink RX6 217 yX4_take ∈ gtbl := gtbl_in (List.mem_of_getElem? (i := 644) (by decide +kernel)) rfl
theorem q645 : Cond.instanceMethod yX4_take ∈ gtbl := gtbl_in (List.mem_of_getElem? (i := 645) (by decide +kernel)) rfl
theorem q646 : Cond.selects RX4 yX4_take yX4_take ∈ gtbl := gtbl_in (List.mem_of_getElem? (i := 646) (by decide +kernel)) rfl
theorem q647 : Cond.code yX4_take cX4_take 2 none ∈ gtbl := gtbl_in (List.mem_of_getElem? (i := 647) (by decide +kernel)) rfl
theorem q648 : Cond.methodLink RL 142 yX6_wipe ∈ gtbl := gtbl_in (List.mem_of_getElem? (i := 648) (by decide +kernel)) rfl
theorem q649 : Cond.instanceMethod yX6_wipe ∈ gtbl := gtbl_in (List.mem_of_getElem? (i := 649) (by decide +kernel)) rfl
theorem q650 : Cond.selects RX6 yX6_wipe yX6_wipe ∈ gtbl := gtbl_in (List.mem_of_getElem? (i := 650) (by decide +kernel)) rfl
theorem q651 : Cond.code yX6_wipe cX6_wipe 2 (some .int) ∈ gtbl := gtbl_in (List.mem_of_getElem? (i := 651) (by decide +kernel)) rfl
theorem q652 : Cond.methodLink RL 146 yX6_text ∈ gtbl := gtbl_in (List.mem_of_getElem? (i := 652) (by decide +kernel)) rfl
theorem q653 : Cond.instanceMethod yX6_text ∈ gtbl := gtbl_in (List.mem_of_getElem? (i := 653) (by decide +kernel)) rfl
theorem q654 : Cond.selects RX6 yX6_text yX6_text ∈ gtbl := gtbl_in (List.mem_of_getElem? (i := 654) (by decide +kernel)) rfl
theorem q655 : Cond.code yX6_text cX6_text 2 (some .int) ∈ gtbl := gtbl_in (List.mem_of_getElem? (i := 655) (by decide +kernel)) rfl
theorem q656 : Cond.methodLink RX6 221 yX5_readArchive ∈ gtbl := gtbl_in (List.mem_of_getElem? (i := 656) (by decide +kernel)) rfl
theorem q657 : Cond.instanceMethod yX5_readArchive ∈ gtbl := gtbl_in (List.mem_of_getElem? (i := 657) (by decide +kernel)) rfl
theorem q658 : Cond.selects RX5 yX5_readArchive yX5_readArchive ∈ gtbl := gtbl_in (List.mem_of_getElem? (i := 658) (by decide +kernel)) rfl
theorem q659 : Cond.code yX5_readArchive cX5_readArchive 2 (some .int) ∈ gtbl := gtbl_in (List.mem_of_getElem? (i := 659) (by decide +kernel)) rfl
theorem q660 : Cond.methodLink RX5 25 yX0_become ∈ gtbl := gtbl_in (List.mem_of_getElem? (i := 660) (by decide +kernel)) rfl
theorem q661 : Cond.instanceMethod yX0_become ∈ gtbl := gtbl_in (List.mem_of_getElem? (i := 661) (by decide +kernel)) rfl
theorem q662 : Cond.selects RX0 yX0_become yX0_become ∈ gtbl := gtbl_in (List.mem_of_getElem? (i := 662) (by decide +kernel)) rfl
theorem q663 : Cond.code yX0_become cX0_become 3 none ∈ gtbl := gtbl_in (List.mem_of_getElem? (i := 663) (by decide +kernel)) rfl
theorem q664 : Cond.methodLink RX0 25 yX1_become ∈ gtbl := gtbl_in (List.mem_of_getElem? (i := 664) (by decide +kernel)) rfl
theorem q665 : Cond.instanceMethod yX1_become ∈ gtbl := gtbl_in (List.mem_of_getElem? (i := 665) (by decide +kernel)) rfl
theorem q666 : Cond.selects RX1 yX1_become yX1_become ∈ gtbl := gtbl_in (List.mem_of_getElem? (i := 666) (by decide +kernel)) rfl
theorem q667 : Cond.code yX1_become cX1_become 2 none ∈ gtbl := gtbl_in (List.mem_of_getElem? (i := 667) (by decide +kernel)) rfl
theorem q668 : Cond.methodLink RX5 33 yX5_step ∈ gtbl := gtbl_in (List.mem_of_getElem? (i := 668) (by decide +kernel)) rfl
theorem q670 : Cond.instanceMethod yX5_step ∈ gtbl := gtbl_in (List.mem_of_getElem? (i := 670) (by decide +kernel)) rfl
theorem q671 : Cond.code yX5_step cX5_step 2 none ∈ gtbl := gtbl_in (List.mem_of_getElem? (i := 671) (by decide +kernel)) rfl
theorem q672 : Cond.methodLink RX5 124 yX4_at ∈ gtbl := gtbl_in (List.mem_of_getElem? (i := 672) (by decide +kernel)) rfl
theorem q673 : Cond.instanceMethod yX4_at ∈ gtbl := gtbl_in (List.mem_of_getElem? (i := 673) (by decide +kernel)) rfl
theorem q674 : Cond.selects RX4 yX4_at yX4_at ∈ gtbl := gtbl_in (List.mem_of_getElem? (i := 674) (by decide +kernel)) rfl
theorem q675 : Cond.code yX4_at cX4_at 2 (some .int) ∈ gtbl := gtbl_in (List.mem_of_getElem? (i := 675) (by decide +kernel)) rfl
theorem q676 : Cond.methodLink RX5 135 yX5_isLetter ∈ gtbl := gtbl_in (List.mem_of_getElem? (i := 676) (by decide +kernel)) rfl
theorem q677 : Cond.static yX5_isLetter ∈ gtbl := gtbl_in (List.mem_of_getElem? (i := 677) (by decide +kernel)) rfl
theorem q678 : Cond.code yX5_isLetter cX5_isLetter 1 (some .boolean) ∈ gtbl := gtbl_in (List.mem_of_getElem? (i := 678) (by decide +kernel)) rfl
theorem q679 : Cond.methodLink RX5 139 yX5_stepOverLetters ∈ gtbl := gtbl_in (List.mem_of_getElem? (i := 679) (by decide +kernel)) rfl
theorem q681 : Cond.instanceMethod yX5_stepOverLetters ∈ gtbl := gtbl_in (List.mem_of_getElem? (i := 681) (by decide +kernel)) rfl
theorem q682 : Cond.code yX5_stepOverLetters cX5_stepOverLetters 1 none ∈ gtbl := gtbl_in (List.mem_of_getElem? (i := 682) (by decide +kernel)) rfl
theorem q683 : Cond.methodLink RX5 142 yX5_isDigit ∈ gtbl := gtbl_in (List.mem_of_getElem? (i := 683) (by decide +kernel)) rfl
theorem q684 : Cond.static yX5_isDigit ∈ gtbl := gtbl_in (List.mem_of_getElem? (i := 684) (by decide +kernel)) rfl
theorem q685 : Cond.code yX5_isDigit cX5_isDigit 1 (some .boolean) ∈ gtbl := gtbl_in (List.mem_of_getElem? (i := 685) (by decide +kernel)) rfl
theorem q686 : Cond.methodLink RX5 145 yX5_stepOverDigits ∈ gtbl := gtbl_in (List.mem_of_getElem? (i := 686) (by decide +kernel)) rfl
theorem q688 : Cond.instanceMethod yX5_stepOverDigits ∈ gtbl := gtbl_in (List.mem_of_getElem? (i := 688) (by decide +kernel)) rfl
theorem q689 : Cond.code yX5_stepOverDigits cX5_stepOverDigits 1 none ∈ gtbl := gtbl_in (List.mem_of_getElem? (i := 689) (by decide +kernel)) rfl
theorem q690 : Cond.methodLink RX5 148 yJ9_min_7cf53 ∈ gtbl := gtbl_in (List.mem_of_getElem? (i := 690) (by decide +kernel)) rfl
theorem q691 : Cond.static yJ9_min_7cf53 ∈ gtbl := gtbl_in (List.mem_of_getElem? (i := 691) (by decide +kernel)) rfl
theorem q692 : Cond.code yJ9_min_7cf53 cJ9_min_7cf53 2 (some .int) ∈ gtbl := gtbl_in (List.mem_of_getElem? (i := 692) (by decide +kernel)) rfl
theorem q693 : Cond.methodLink RX5 36 yX5_readItem ∈ gtbl := gtbl_in (List.mem_of_getElem? (i := 693) (by decide +kernel)) rfl
theorem q695 : Cond.instanceMethod yX5_readItem ∈ gtbl := gtbl_in (List.mem_of_getElem? (i := 695) (by decide +kernel)) rfl
theorem q696 : Cond.code yX5_readItem cX5_readItem 3 (some .boolean) ∈ gtbl := gtbl_in (List.mem_of_getElem? (i := 696) (by decide +kernel)) rfl
theorem q697 : Cond.stringRef RX5 46 "slack" ∈ lw_tbl := List.mem_of_getElem? (i := 697) (by decide +kernel)
theorem q698 : Cond.methodLink RX5 48 yX5_isWord ∈ gtbl := gtbl_in (List.mem_of_getElem? (i := 698) (by decide +kernel)) rfl
theorem q700 : Cond.instanceMethod yX5_isWord ∈ gtbl := gtbl_in (List.mem_of_getElem? (i := 700) (by decide +kernel)) rfl
theorem q701 : Cond.code yX5_isWord cX5_isWord 3 (some .boolean) ∈ gtbl := gtbl_in (List.mem_of_getElem? (i := 701) (by decide +kernel)) rfl
theorem q702 : Cond.methodLink RX5 119 yJ0_length_8abf5 ∈ gtbl := gtbl_in (List.mem_of_getElem? (i := 702) (by decide +kernel)) rfl
theorem q703 : Cond.instanceMethod yJ0_length_8abf5 ∈ gtbl := gtbl_in (List.mem_of_getElem? (i := 703) (by decide +kernel)) rfl
theorem q704 : Cond.selects RJ0 yJ0_length_8abf5 yJ0_length_8abf5 ∈ gtbl := gtbl_in (List.mem_of_getElem? (i := 704) (by decide +kernel)) rfl
theorem q705 : Cond.code yJ0_length_8abf5 cJ0_length_8abf5 1 (some .int) ∈ gtbl := gtbl_in (List.mem_of_getElem? (i := 705) (by decide +kernel)) rfl
theorem q706 : Cond.methodLink RJ0 335 yJ0_coder_7d493 ∈ gtbl := gtbl_in (List.mem_of_getElem? (i := 706) (by decide +kernel)) rfl
theorem q707 : Cond.instanceMethod yJ0_coder_7d493 ∈ gtbl := gtbl_in (List.mem_of_getElem? (i := 707) (by decide +kernel)) rfl
theorem q708 : Cond.selects RJ0 yJ0_coder_7d493 yJ0_coder_7d493 ∈ gtbl := gtbl_in (List.mem_of_getElem? (i := 708) (by decide +kernel)) rfl
theorem q709 : Cond.code yJ0_coder_7d493 cJ0_coder_7d493 1 (some .byte) ∈ gtbl := gtbl_in (List.mem_of_getElem? (i := 709) (by decide +kernel)) rfl
theorem q710 : Cond.fieldLink RJ0 38 RJ0 "COMPACT_STRINGS" "Z" ∈ gtbl := gtbl_in (List.mem_of_getElem? (i := 710) (by decide +kernel)) rfl
theorem q711 : Cond.laysStatic RJ0 "COMPACT_STRINGS" "Z" ∈ lw_tbl := List.mem_of_getElem? (i := 711) (by decide +kernel)
theorem q712 : Cond.methodLink RX5 130 yJ0_charAt_5068e ∈ gtbl := gtbl_in (List.mem_of_getElem? (i := 712) (by decide +kernel)) rfl
theorem q713 : Cond.instanceMethod yJ0_charAt_5068e ∈ gtbl := gtbl_in (List.mem_of_getElem? (i := 713) (by decide +kernel)) rfl
theorem q714 : Cond.selects RJ0 yJ0_charAt_5068e yJ0_charAt_5068e ∈ gtbl := gtbl_in (List.mem_of_getElem? (i := 714) (by decide +kernel)) rfl
theorem q715 : Cond.code yJ0_charAt_5068e cJ0_charAt_5068e 2 (some .char) ∈ gtbl := gtbl_in (List.mem_of_getElem? (i := 715) (by decide +kernel)) rfl
theorem q716 : Cond.methodLink RJ0 492 yJ0_isLatin1_aae02 ∈ gtbl := gtbl_in (List.mem_of_getElem? (i := 716) (by decide +kernel)) rfl
theorem q717 : Cond.instanceMethod yJ0_isLatin1_aae02 ∈ gtbl := gtbl_in (List.mem_of_getElem? (i := 717) (by decide +kernel)) rfl
theorem q718 : Cond.selects RJ0 yJ0_isLatin1_aae02 yJ0_isLatin1_aae02 ∈ gtbl := gtbl_in (List.mem_of_getElem? (i := 718) (by decide +kernel)) rfl
theorem q719 : Cond.code yJ0_isLatin1_aae02 cJ0_isLatin1_aae02 1 (some .boolean) ∈ gtbl := gtbl_in (List.mem_of_getElem? (i := 719) (by decide +kernel)) rfl
theorem q720 : Cond.methodLink RJ0 495 yJ1_charAt_3b067 ∈ gtbl := gtbl_in (List.mem_of_getElem? (i := 720) (by decide +kernel)) rfl
theorem q721 : Cond.static yJ1_charAt_3b067 ∈ gtbl := gtbl_in (List.mem_of_getElem? (i := 721) (by decide +kernel)) rfl
theorem q722 : Cond.code yJ1_charAt_3b067 cJ1_charAt_3b067 2 (some .char) ∈ gtbl := gtbl_in (List.mem_of_getElem? (i := 722) (by decide +kernel)) rfl
theorem q723 : Cond.methodLink RJ1 9 yJ0_checkIndex_df160 ∈ gtbl := gtbl_in (List.mem_of_getElem? (i := 723) (by decide +kernel)) rfl
theorem q724 : Cond.static yJ0_checkIndex_df160 ∈ gtbl := gtbl_in (List.mem_of_getElem? (i := 724) (by decide +kernel)) rfl
theorem q725 : Cond.code yJ0_checkIndex_df160 cJ0_checkIndex_df160 2 none ∈ gtbl := gtbl_in (List.mem_of_getElem? (i := 725) (by decide +kernel)) rfl
theorem q726 : Cond.fieldLink RJ0 1053 RJ3 "SIOOBE_FORMATTER" "Ljava/util/function/BiFunction;" ∈ gtbl := gtbl_in (List.mem_of_getElem? (i := 726) (by decide +kernel)) rfl
theorem q727 : Cond.laysStatic RJ3 "SIOOBE_FORMATTER" "Ljava/util/function/BiFunction;" ∈ lw_tbl := List.mem_of_getElem? (i := 727) (by decide +kernel)
theorem q728 : Cond.methodLink RJ0 1059 yJ3_checkIndex_8e157 ∈ gtbl := gtbl_in (List.mem_of_getElem? (i := 728) (by decide +kernel)) rfl
theorem q729 : Cond.static yJ3_checkIndex_8e157 ∈ gtbl := gtbl_in (List.mem_of_getElem? (i := 729) (by decide +kernel)) rfl
theorem q730 : Cond.code yJ3_checkIndex_8e157 cJ3_checkIndex_8e157 3 (some .int) ∈ gtbl := gtbl_in (List.mem_of_getElem? (i := 730) (by decide +kernel)) rfl
theorem q731 : Cond.methodLink RJ0 498 yJ2_charAt_3b067 ∈ gtbl := gtbl_in (List.mem_of_getElem? (i := 731) (by decide +kernel)) rfl
theorem q732 : Cond.static yJ2_charAt_3b067 ∈ gtbl := gtbl_in (List.mem_of_getElem? (i := 732) (by decide +kernel)) rfl
theorem q733 : Cond.code yJ2_charAt_3b067 cJ2_charAt_3b067 2 (some .char) ∈ gtbl := gtbl_in (List.mem_of_getElem? (i := 733) (by decide +kernel)) rfl
theorem q734 : Cond.methodLink RJ2 67 yJ2_checkIndex_2214a ∈ gtbl := gtbl_in (List.mem_of_getElem? (i := 734) (by decide +kernel)) rfl
theorem q735 : Cond.static yJ2_checkIndex_2214a ∈ gtbl := gtbl_in (List.mem_of_getElem? (i := 735) (by decide +kernel)) rfl
theorem q736 : Cond.code yJ2_checkIndex_2214a cJ2_checkIndex_2214a 2 none ∈ gtbl := gtbl_in (List.mem_of_getElem? (i := 736) (by decide +kernel)) rfl
theorem q737 : Cond.methodLink RJ2 48 yJ2_length_9d52b ∈ gtbl := gtbl_in (List.mem_of_getElem? (i := 737) (by decide +kernel)) rfl
theorem q738 : Cond.static yJ2_length_9d52b ∈ gtbl := gtbl_in (List.mem_of_getElem? (i := 738) (by decide +kernel)) rfl
theorem q739 : Cond.code yJ2_length_9d52b cJ2_length_9d52b 1 (some .int) ∈ gtbl := gtbl_in (List.mem_of_getElem? (i := 739) (by decide +kernel)) rfl
theorem q740 : Cond.methodLink RJ2 414 yJ0_checkIndex_df160 ∈ gtbl := gtbl_in (List.mem_of_getElem? (i := 740) (by decide +kernel)) rfl
theorem q741 : Cond.methodLink RJ2 71 yJ2_getChar_3b067 ∈ gtbl := gtbl_in (List.mem_of_getElem? (i := 741) (by decide +kernel)) rfl
theorem q742 : Cond.static yJ2_getChar_3b067 ∈ gtbl := gtbl_in (List.mem_of_getElem? (i := 742) (by decide +kernel)) rfl
theorem q743 : Cond.code yJ2_getChar_3b067 cJ2_getChar_3b067 2 (some .char) ∈ gtbl := gtbl_in (List.mem_of_getElem? (i := 743) (by decide +kernel)) rfl
theorem q744 : Cond.fieldLink RJ2 44 RJ2 "$assertionsDisabled" "Z" ∈ gtbl := gtbl_in (List.mem_of_getElem? (i := 744) (by decide +kernel)) rfl
theorem q745 : Cond.laysStatic RJ2 "$assertionsDisabled" "Z" ∈ lw_tbl := List.mem_of_getElem? (i := 745) (by decide +kernel)
theorem q746 : Cond.fieldLink RJ2 59 RJ2 "HI_BYTE_SHIFT" "I" ∈ gtbl := gtbl_in (List.mem_of_getElem? (i := 746) (by decide +kernel)) rfl
theorem q747 : Cond.laysStatic RJ2 "HI_BYTE_SHIFT" "I" ∈ lw_tbl := List.mem_of_getElem? (i := 747) (by decide +kernel)
theorem q748 : Cond.fieldLink RJ2 63 RJ2 "LO_BYTE_SHIFT" "I" ∈ gtbl := gtbl_in (List.mem_of_getElem? (i := 748) (by decide +kernel)) rfl
theorem q749 : Cond.laysStatic RJ2 "LO_BYTE_SHIFT" "I" ∈ lw_tbl := List.mem_of_getElem? (i := 749) (by decide +kernel)
theorem q750 : Cond.methodLink RX5 52 yX5_readSlack ∈ gtbl := gtbl_in (List.mem_of_getElem? (i := 750) (by decide +kernel)) rfl
theorem q752 : Cond.instanceMethod yX5_readSlack ∈ gtbl := gtbl_in (List.mem_of_getElem? (i := 752) (by decide +kernel)) rfl
theorem q753 : Cond.code yX5_readSlack cX5_readSlack 1 (some .boolean) ∈ gtbl := gtbl_in (List.mem_of_getElem? (i := 753) (by decide +kernel)) rfl
theorem q754 : Cond.methodLink RX5 76 yX5_isNumber ∈ gtbl := gtbl_in (List.mem_of_getElem? (i := 754) (by decide +kernel)) rfl
theorem q756 : Cond.instanceMethod yX5_isNumber ∈ gtbl := gtbl_in (List.mem_of_getElem? (i := 756) (by decide +kernel)) rfl
theorem q757 : Cond.code yX5_isNumber cX5_isNumber 3 (some .boolean) ∈ gtbl := gtbl_in (List.mem_of_getElem? (i := 757) (by decide +kernel)) rfl
theorem q758 : Cond.stringRef RX5 55 "look" ∈ lw_tbl := List.mem_of_getElem? (i := 758) (by decide +kernel)
theorem q759 : Cond.methodLink RX5 57 yX5_readLook ∈ gtbl := gtbl_in (List.mem_of_getElem? (i := 759) (by decide +kernel)) rfl
theorem q761 : Cond.instanceMethod yX5_readLook ∈ gtbl := gtbl_in (List.mem_of_getElem? (i := 761) (by decide +kernel)) rfl
theorem q762 : Cond.code yX5_readLook cX5_readLook 1 (some .boolean) ∈ gtbl := gtbl_in (List.mem_of_getElem? (i := 762) (by decide +kernel)) rfl
theorem q763 : Cond.methodLink RX5 60 yX5_kindNamed ∈ gtbl := gtbl_in (List.mem_of_getElem? (i := 763) (by decide +kernel)) rfl
theorem q765 : Cond.instanceMethod yX5_kindNamed ∈ gtbl := gtbl_in (List.mem_of_getElem? (i := 765) (by decide +kernel)) rfl
theorem q766 : Cond.code yX5_kindNamed cX5_kindNamed 1 (some .int) ∈ gtbl := gtbl_in (List.mem_of_getElem? (i := 766) (by decide +kernel)) rfl
theorem q767 : Cond.stringRef RX5 107 "print" ∈ lw_tbl := List.mem_of_getElem? (i := 767) (by decide +kernel)
theorem q768 : Cond.stringRef RX5 109 "burnt" ∈ lw_tbl := List.mem_of_getElem? (i := 768) (by decide +kernel)
theorem q769 : Cond.stringRef RX5 111 "cast" ∈ lw_tbl := List.mem_of_getElem? (i := 769) (by decide +kernel)
theorem q770 : Cond.stringRef RX5 113 "forged" ∈ lw_tbl := List.mem_of_getElem? (i := 770) (by decide +kernel)
theorem q771 : Cond.stringRef RX5 115 "recut" ∈ lw_tbl := List.mem_of_getElem? (i := 771) (by decide +kernel)
theorem q772 : Cond.stringRef RX5 117 "melted" ∈ lw_tbl := List.mem_of_getElem? (i := 772) (by decide +kernel)
theorem q773 : Cond.methodLink RX5 64 yX0_hang ∈ gtbl := gtbl_in (List.mem_of_getElem? (i := 773) (by decide +kernel)) rfl
theorem q774 : Cond.methodLink RX5 72 yX5_readPrint ∈ gtbl := gtbl_in (List.mem_of_getElem? (i := 774) (by decide +kernel)) rfl
theorem q776 : Cond.instanceMethod yX5_readPrint ∈ gtbl := gtbl_in (List.mem_of_getElem? (i := 776) (by decide +kernel)) rfl
theorem q777 : Cond.code yX5_readPrint cX5_readPrint 3 (some .boolean) ∈ gtbl := gtbl_in (List.mem_of_getElem? (i := 777) (by decide +kernel)) rfl
theorem q778 : Cond.stringRef RX5 98 "width" ∈ lw_tbl := List.mem_of_getElem? (i := 778) (by decide +kernel)
theorem q779 : Cond.stringRef RX5 102 "year" ∈ lw_tbl := List.mem_of_getElem? (i := 779) (by decide +kernel)
theorem q780 : Cond.stringRef RX5 106 "seen" ∈ lw_tbl := List.mem_of_getElem? (i := 780) (by decide +kernel)
theorem q781 : Cond.arrayClass .byte ∈ gtbl := gtbl_in (List.mem_of_getElem? (i := 781) (by decide +kernel)) rfl
theorem q782 : Cond.methodLink RL 150 yX6_sheet ∈ gtbl := gtbl_in (List.mem_of_getElem? (i := 782) (by decide +kernel)) rfl
theorem q783 : Cond.instanceMethod yX6_sheet ∈ gtbl := gtbl_in (List.mem_of_getElem? (i := 783) (by decide +kernel)) rfl
theorem q784 : Cond.selects RX6 yX6_sheet yX6_sheet ∈ gtbl := gtbl_in (List.mem_of_getElem? (i := 784) (by decide +kernel)) rfl
theorem q785 : Cond.code yX6_sheet cX6_sheet 5 (some .int) ∈ gtbl := gtbl_in (List.mem_of_getElem? (i := 785) (by decide +kernel)) rfl
theorem q786 : Cond.methodLink RX6 224 yX6_isSheet ∈ gtbl := gtbl_in (List.mem_of_getElem? (i := 786) (by decide +kernel)) rfl
theorem q787 : Cond.static yX6_isSheet ∈ gtbl := gtbl_in (List.mem_of_getElem? (i := 787) (by decide +kernel)) rfl
theorem q788 : Cond.code yX6_isSheet cX6_isSheet 1 (some .boolean) ∈ gtbl := gtbl_in (List.mem_of_getElem? (i := 788) (by decide +kernel)) rfl
theorem q789 : Cond.methodLink RX6 227 yX6_isBits ∈ gtbl := gtbl_in (List.mem_of_getElem? (i := 789) (by decide +kernel)) rfl
theorem q790 : Cond.static yX6_isBits ∈ gtbl := gtbl_in (List.mem_of_getElem? (i := 790) (by decide +kernel)) rfl
theorem q791 : Cond.code yX6_isBits cX6_isBits 1 (some .boolean) ∈ gtbl := gtbl_in (List.mem_of_getElem? (i := 791) (by decide +kernel)) rfl
theorem q792 : Cond.methodLink RX6 230 yX3_lay ∈ gtbl := gtbl_in (List.mem_of_getElem? (i := 792) (by decide +kernel)) rfl
theorem q793 : Cond.instanceMethod yX3_lay ∈ gtbl := gtbl_in (List.mem_of_getElem? (i := 793) (by decide +kernel)) rfl
theorem q794 : Cond.selects RX3 yX3_lay yX3_lay ∈ gtbl := gtbl_in (List.mem_of_getElem? (i := 794) (by decide +kernel)) rfl
theorem q795 : Cond.code yX3_lay cX3_lay 4 none ∈ gtbl := gtbl_in (List.mem_of_getElem? (i := 795) (by decide +kernel)) rfl
theorem q796 : Cond.methodLink RL 154 yX6_write ∈ gtbl := gtbl_in (List.mem_of_getElem? (i := 796) (by decide +kernel)) rfl
theorem q797 : Cond.instanceMethod yX6_write ∈ gtbl := gtbl_in (List.mem_of_getElem? (i := 797) (by decide +kernel)) rfl
theorem q798 : Cond.selects RX6 yX6_write yX6_write ∈ gtbl := gtbl_in (List.mem_of_getElem? (i := 798) (by decide +kernel)) rfl
theorem q799 : Cond.code yX6_write cX6_write 8 (some .long) ∈ gtbl := gtbl_in (List.mem_of_getElem? (i := 799) (by decide +kernel)) rfl
theorem q800 : Cond.methodLink RX6 234 yX3_isMissing ∈ gtbl := gtbl_in (List.mem_of_getElem? (i := 800) (by decide +kernel)) rfl
theorem q801 : Cond.instanceMethod yX3_isMissing ∈ gtbl := gtbl_in (List.mem_of_getElem? (i := 801) (by decide +kernel)) rfl
theorem q802 : Cond.selects RX3 yX3_isMissing yX3_isMissing ∈ gtbl := gtbl_in (List.mem_of_getElem? (i := 802) (by decide +kernel)) rfl
theorem q803 : Cond.code yX3_isMissing cX3_isMissing 1 (some .boolean) ∈ gtbl := gtbl_in (List.mem_of_getElem? (i := 803) (by decide +kernel)) rfl
theorem q804 : Cond.constant RX6 237 (-1000000006) ∈ gtbl := gtbl_in (List.mem_of_getElem? (i := 804) (by decide +kernel)) rfl
theorem q805 : Cond.methodLink RX6 243 yX3_put ∈ gtbl := gtbl_in (List.mem_of_getElem? (i := 805) (by decide +kernel)) rfl
theorem q806 : Cond.instanceMethod yX3_put ∈ gtbl := gtbl_in (List.mem_of_getElem? (i := 806) (by decide +kernel)) rfl
theorem q807 : Cond.selects RX3 yX3_put yX3_put ∈ gtbl := gtbl_in (List.mem_of_getElem? (i := 807) (by decide +kernel)) rfl
theorem q808 : Cond.code yX3_put cX3_put 4 none ∈ gtbl := gtbl_in (List.mem_of_getElem? (i := 808) (by decide +kernel)) rfl
theorem q809 : Cond.methodLink RX3 22 yX3_lowest ∈ gtbl := gtbl_in (List.mem_of_getElem? (i := 809) (by decide +kernel)) rfl
theorem q811 : Cond.instanceMethod yX3_lowest ∈ gtbl := gtbl_in (List.mem_of_getElem? (i := 811) (by decide +kernel)) rfl
theorem q812 : Cond.code yX3_lowest cX3_lowest 3 (some .long) ∈ gtbl := gtbl_in (List.mem_of_getElem? (i := 812) (by decide +kernel)) rfl
theorem q813 : Cond.methodLink RL 159 yX6_copy ∈ gtbl := gtbl_in (List.mem_of_getElem? (i := 813) (by decide +kernel)) rfl
theorem q814 : Cond.instanceMethod yX6_copy ∈ gtbl := gtbl_in (List.mem_of_getElem? (i := 814) (by decide +kernel)) rfl
theorem q815 : Cond.selects RX6 yX6_copy yX6_copy ∈ gtbl := gtbl_in (List.mem_of_getElem? (i := 815) (by decide +kernel)) rfl
theorem q816 : Cond.code yX6_copy cX6_copy 8 (some .int) ∈ gtbl := gtbl_in (List.mem_of_getElem? (i := 816) (by decide +kernel)) rfl
theorem q817 : Cond.methodLink RX6 250 yX3_hasRun ∈ gtbl := gtbl_in (List.mem_of_getElem? (i := 817) (by decide +kernel)) rfl
theorem q818 : Cond.instanceMethod yX3_hasRun ∈ gtbl := gtbl_in (List.mem_of_getElem? (i := 818) (by decide +kernel)) rfl
theorem q819 : Cond.selects RX3 yX3_hasRun yX3_hasRun ∈ gtbl := gtbl_in (List.mem_of_getElem? (i := 819) (by decide +kernel)) rfl
theorem q820 : Cond.code yX3_hasRun cX3_hasRun 3 (some .boolean) ∈ gtbl := gtbl_in (List.mem_of_getElem? (i := 820) (by decide +kernel)) rfl
theorem q821 : Cond.methodLink RX6 253 ⟨RJ10, "arraycopy", "(Ljava/lang/Object;ILjava/lang/Object;II)V"⟩ ∈ gtbl := gtbl_in (List.mem_of_getElem? (i := 821) (by decide +kernel)) rfl
theorem q822 : Cond.static ⟨RJ10, "arraycopy", "(Ljava/lang/Object;ILjava/lang/Object;II)V"⟩ ∈ gtbl := gtbl_in (List.mem_of_getElem? (i := 822) (by decide +kernel)) rfl
theorem q823 : Cond.native ⟨RJ10, "arraycopy", "(Ljava/lang/Object;ILjava/lang/Object;II)V"⟩ ∈ gtbl := gtbl_in (List.mem_of_getElem? (i := 823) (by decide +kernel)) rfl
theorem q824 : Cond.methodLink RL 164 yX6_dates ∈ gtbl := gtbl_in (List.mem_of_getElem? (i := 824) (by decide +kernel)) rfl
theorem q825 : Cond.instanceMethod yX6_dates ∈ gtbl := gtbl_in (List.mem_of_getElem? (i := 825) (by decide +kernel)) rfl
theorem q826 : Cond.selects RX6 yX6_dates yX6_dates ∈ gtbl := gtbl_in (List.mem_of_getElem? (i := 826) (by decide +kernel)) rfl
theorem q827 : Cond.code yX6_dates cX6_dates 7 (some .int) ∈ gtbl := gtbl_in (List.mem_of_getElem? (i := 827) (by decide +kernel)) rfl
theorem q828 : Cond.constantLong RX6 260 2000 ∈ gtbl := gtbl_in (List.mem_of_getElem? (i := 828) (by decide +kernel)) rfl
theorem q829 : Cond.methodLink RL 168 yX6_show ∈ gtbl := gtbl_in (List.mem_of_getElem? (i := 829) (by decide +kernel)) rfl
theorem q830 : Cond.instanceMethod yX6_show ∈ gtbl := gtbl_in (List.mem_of_getElem? (i := 830) (by decide +kernel)) rfl
theorem q831 : Cond.selects RX6 yX6_show yX6_show ∈ gtbl := gtbl_in (List.mem_of_getElem? (i := 831) (by decide +kernel)) rfl
theorem q832 : Cond.code yX6_show cX6_show 5 (some .int) ∈ gtbl := gtbl_in (List.mem_of_getElem? (i := 832) (by decide +kernel)) rfl
theorem q833 : Cond.methodLink RX6 262 yJ9_min_7cf53 ∈ gtbl := gtbl_in (List.mem_of_getElem? (i := 833) (by decide +kernel)) rfl
theorem q834 : Cond.methodLink RL 172 yX6_read ∈ gtbl := gtbl_in (List.mem_of_getElem? (i := 834) (by decide +kernel)) rfl
theorem q835 : Cond.instanceMethod yX6_read ∈ gtbl := gtbl_in (List.mem_of_getElem? (i := 835) (by decide +kernel)) rfl
theorem q836 : Cond.selects RX6 yX6_read yX6_read ∈ gtbl := gtbl_in (List.mem_of_getElem? (i := 836) (by decide +kernel)) rfl
theorem q837 : Cond.code yX6_read cX6_read 8 (some .int) ∈ gtbl := gtbl_in (List.mem_of_getElem? (i := 837) (by decide +kernel)) rfl
theorem q838 : Cond.methodLink RX6 267 yX0_canAllBe ∈ gtbl := gtbl_in (List.mem_of_getElem? (i := 838) (by decide +kernel)) rfl
theorem q839 : Cond.instanceMethod yX0_canAllBe ∈ gtbl := gtbl_in (List.mem_of_getElem? (i := 839) (by decide +kernel)) rfl
theorem q840 : Cond.selects RX0 yX0_canAllBe yX0_canAllBe ∈ gtbl := gtbl_in (List.mem_of_getElem? (i := 840) (by decide +kernel)) rfl
theorem q841 : Cond.code yX0_canAllBe cX0_canAllBe 4 (some .boolean) ∈ gtbl := gtbl_in (List.mem_of_getElem? (i := 841) (by decide +kernel)) rfl
theorem q842 : Cond.methodLink RX0 48 yX0_canBe ∈ gtbl := gtbl_in (List.mem_of_getElem? (i := 842) (by decide +kernel)) rfl
theorem q843 : Cond.methodLink RL 176 yX6_image ∈ gtbl := gtbl_in (List.mem_of_getElem? (i := 843) (by decide +kernel)) rfl
theorem q844 : Cond.instanceMethod yX6_image ∈ gtbl := gtbl_in (List.mem_of_getElem? (i := 844) (by decide +kernel)) rfl
theorem q845 : Cond.selects RX6 yX6_image yX6_image ∈ gtbl := gtbl_in (List.mem_of_getElem? (i := 845) (by decide +kernel)) rfl
theorem q846 : Cond.code yX6_image cX6_image 1 (some .int) ∈ gtbl := gtbl_in (List.mem_of_getElem? (i := 846) (by decide +kernel)) rfl
theorem q847 : Cond.methodLink RX6 270 yX0_become ∈ gtbl := gtbl_in (List.mem_of_getElem? (i := 847) (by decide +kernel)) rfl
theorem q848 : Cond.methodLink RL 180 yX6_undo ∈ gtbl := gtbl_in (List.mem_of_getElem? (i := 848) (by decide +kernel)) rfl
theorem q849 : Cond.instanceMethod yX6_undo ∈ gtbl := gtbl_in (List.mem_of_getElem? (i := 849) (by decide +kernel)) rfl
theorem q850 : Cond.selects RX6 yX6_undo yX6_undo ∈ gtbl := gtbl_in (List.mem_of_getElem? (i := 850) (by decide +kernel)) rfl
theorem q851 : Cond.code yX6_undo cX6_undo 1 (some .int) ∈ gtbl := gtbl_in (List.mem_of_getElem? (i := 851) (by decide +kernel)) rfl
theorem q852 : Cond.methodLink RL 184 yX6_tear ∈ gtbl := gtbl_in (List.mem_of_getElem? (i := 852) (by decide +kernel)) rfl
theorem q853 : Cond.instanceMethod yX6_tear ∈ gtbl := gtbl_in (List.mem_of_getElem? (i := 853) (by decide +kernel)) rfl
theorem q854 : Cond.selects RX6 yX6_tear yX6_tear ∈ gtbl := gtbl_in (List.mem_of_getElem? (i := 854) (by decide +kernel)) rfl
theorem q855 : Cond.code yX6_tear cX6_tear 2 (some .int) ∈ gtbl := gtbl_in (List.mem_of_getElem? (i := 855) (by decide +kernel)) rfl
theorem q856 : Cond.methodLink RL 188 yX6_count ∈ gtbl := gtbl_in (List.mem_of_getElem? (i := 856) (by decide +kernel)) rfl
theorem q857 : Cond.instanceMethod yX6_count ∈ gtbl := gtbl_in (List.mem_of_getElem? (i := 857) (by decide +kernel)) rfl
theorem q858 : Cond.selects RX6 yX6_count yX6_count ∈ gtbl := gtbl_in (List.mem_of_getElem? (i := 858) (by decide +kernel)) rfl
theorem q859 : Cond.code yX6_count cX6_count 2 (some .int) ∈ gtbl := gtbl_in (List.mem_of_getElem? (i := 859) (by decide +kernel)) rfl
theorem q860 : Cond.methodLink RX6 273 yX0_howManySeen ∈ gtbl := gtbl_in (List.mem_of_getElem? (i := 860) (by decide +kernel)) rfl
theorem q861 : Cond.instanceMethod yX0_howManySeen ∈ gtbl := gtbl_in (List.mem_of_getElem? (i := 861) (by decide +kernel)) rfl
theorem q862 : Cond.selects RX0 yX0_howManySeen yX0_howManySeen ∈ gtbl := gtbl_in (List.mem_of_getElem? (i := 862) (by decide +kernel)) rfl
theorem q863 : Cond.code yX0_howManySeen cX0_howManySeen 3 (some .int) ∈ gtbl := gtbl_in (List.mem_of_getElem? (i := 863) (by decide +kernel)) rfl
theorem q864 : Cond.methodLink RX6 276 yX0_howManyMarks ∈ gtbl := gtbl_in (List.mem_of_getElem? (i := 864) (by decide +kernel)) rfl
theorem q865 : Cond.instanceMethod yX0_howManyMarks ∈ gtbl := gtbl_in (List.mem_of_getElem? (i := 865) (by decide +kernel)) rfl
theorem q866 : Cond.selects RX0 yX0_howManyMarks yX0_howManyMarks ∈ gtbl := gtbl_in (List.mem_of_getElem? (i := 866) (by decide +kernel)) rfl
theorem q867 : Cond.code yX0_howManyMarks cX0_howManyMarks 3 (some .int) ∈ gtbl := gtbl_in (List.mem_of_getElem? (i := 867) (by decide +kernel)) rfl
theorem q868 : Cond.methodLink RX0 96 yJ13_bitCount_95d88 ∈ gtbl := gtbl_in (List.mem_of_getElem? (i := 868) (by decide +kernel)) rfl
theorem q869 : Cond.methodLink RL 192 yX6_status ∈ gtbl := gtbl_in (List.mem_of_getElem? (i := 869) (by decide +kernel)) rfl
theorem q870 : Cond.instanceMethod yX6_status ∈ gtbl := gtbl_in (List.mem_of_getElem? (i := 870) (by decide +kernel)) rfl
theorem q871 : Cond.selects RX6 yX6_status yX6_status ∈ gtbl := gtbl_in (List.mem_of_getElem? (i := 871) (by decide +kernel)) rfl
theorem q872 : Cond.code yX6_status cX6_status 4 (some .int) ∈ gtbl := gtbl_in (List.mem_of_getElem? (i := 872) (by decide +kernel)) rfl
theorem q873 : Cond.classLink RL 10 RX7 ∈ gtbl := gtbl_in (List.mem_of_getElem? (i := 873) (by decide +kernel)) rfl
theorem q874 : Cond.instantiable RX7 25 ∈ gtbl := gtbl_in (List.mem_of_getElem? (i := 874) (by decide +kernel)) rfl
theorem q875 : Cond.methodLink RL 12 yX7_init ∈ gtbl := gtbl_in (List.mem_of_getElem? (i := 875) (by decide +kernel)) rfl
theorem q876 : Cond.instanceMethod yX7_init ∈ gtbl := gtbl_in (List.mem_of_getElem? (i := 876) (by decide +kernel)) rfl
theorem q877 : Cond.code yX7_init cX7_init 1 none ∈ gtbl := gtbl_in (List.mem_of_getElem? (i := 877) (by decide +kernel)) rfl
theorem q878 : Cond.methodLink RX7 1 objectInit ∈ gtbl := gtbl_in (List.mem_of_getElem? (i := 878) (by decide +kernel)) rfl
theorem q879 : Cond.fieldLink RX7 7 RX7 "row" "[I" ∈ gtbl := gtbl_in (List.mem_of_getElem? (i := 879) (by decide +kernel)) rfl
theorem q880 : Cond.fieldLink RX7 13 RX7 "scratches" "[J" ∈ gtbl := gtbl_in (List.mem_of_getElem? (i := 880) (by decide +kernel)) rfl
theorem q881 : Cond.fieldLink RX7 17 RX7 "found" "[I" ∈ gtbl := gtbl_in (List.mem_of_getElem? (i := 881) (by decide +kernel)) rfl
theorem q882 : Cond.fieldLink RX7 20 RX7 "can" "[Z" ∈ gtbl := gtbl_in (List.mem_of_getElem? (i := 882) (by decide +kernel)) rfl
theorem q883 : Cond.fieldLink RX7 24 RX7 "byYears" "[I" ∈ gtbl := gtbl_in (List.mem_of_getElem? (i := 883) (by decide +kernel)) rfl
theorem q884 : Cond.fieldLink RX7 27 RX7 "isRing" "[Z" ∈ gtbl := gtbl_in (List.mem_of_getElem? (i := 884) (by decide +kernel)) rfl
theorem q885 : Cond.fieldLink RX7 30 RX7 "few" "[I" ∈ gtbl := gtbl_in (List.mem_of_getElem? (i := 885) (by decide +kernel)) rfl
theorem q886 : Cond.fieldLink RX7 33 RX7 "queue" "[I" ∈ gtbl := gtbl_in (List.mem_of_getElem? (i := 886) (by decide +kernel)) rfl
theorem q887 : Cond.fieldLink RX7 36 RX7 "tape" "[I" ∈ gtbl := gtbl_in (List.mem_of_getElem? (i := 887) (by decide +kernel)) rfl
theorem q888 : Cond.fieldLink RX7 194 RX7 "tapeMany" "I" ∈ gtbl := gtbl_in (List.mem_of_getElem? (i := 888) (by decide +kernel)) rfl
theorem q889 : Cond.fieldLink RX7 213 RX7 "sort" "I" ∈ gtbl := gtbl_in (List.mem_of_getElem? (i := 889) (by decide +kernel)) rfl
theorem q890 : Cond.fieldLink RX7 201 RX7 "begins" "I" ∈ gtbl := gtbl_in (List.mem_of_getElem? (i := 890) (by decide +kernel)) rfl
theorem q891 : Cond.fieldLink RX7 198 RX7 "tokenEnds" "I" ∈ gtbl := gtbl_in (List.mem_of_getElem? (i := 891) (by decide +kernel)) rfl
theorem q892 : Cond.fieldLink RX7 216 RX7 "word" "J" ∈ gtbl := gtbl_in (List.mem_of_getElem? (i := 892) (by decide +kernel)) rfl
theorem q893 : Cond.fieldLink RX7 220 RX7 "value" "I" ∈ gtbl := gtbl_in (List.mem_of_getElem? (i := 893) (by decide +kernel)) rfl
theorem q894 : Cond.fieldLink RX7 243 RX7 "good" "Z" ∈ gtbl := gtbl_in (List.mem_of_getElem? (i := 894) (by decide +kernel)) rfl
theorem q895 : Cond.fieldLink RX7 39 RX7 "bitsOf" "[I" ∈ gtbl := gtbl_in (List.mem_of_getElem? (i := 895) (by decide +kernel)) rfl
theorem q896 : Cond.fieldLink RX7 42 RX7 "sizeOf" "[I" ∈ gtbl := gtbl_in (List.mem_of_getElem? (i := 896) (by decide +kernel)) rfl
theorem q897 : Cond.fieldLink RX7 45 RX7 "sheets" "[J" ∈ gtbl := gtbl_in (List.mem_of_getElem? (i := 897) (by decide +kernel)) rfl
theorem q898 : Cond.fieldLink RX7 48 RX7 "lent" "[J" ∈ gtbl := gtbl_in (List.mem_of_getElem? (i := 898) (by decide +kernel)) rfl
theorem q899 : Cond.fieldLink RX7 51 RX7 "image" "[I" ∈ gtbl := gtbl_in (List.mem_of_getElem? (i := 899) (by decide +kernel)) rfl
theorem q900 : Cond.fieldLink RX7 54 RX7 "before" "[I" ∈ gtbl := gtbl_in (List.mem_of_getElem? (i := 900) (by decide +kernel)) rfl
theorem q901 : Cond.fieldLink RX7 57 RX7 "marksKept" "[J" ∈ gtbl := gtbl_in (List.mem_of_getElem? (i := 901) (by decide +kernel)) rfl
theorem q902 : Cond.fieldLink RX7 60 RX7 "marksBefore" "[J" ∈ gtbl := gtbl_in (List.mem_of_getElem? (i := 902) (by decide +kernel)) rfl
theorem q903 : Cond.fieldLink RX7 300 RX7 "isKept" "Z" ∈ gtbl := gtbl_in (List.mem_of_getElem? (i := 903) (by decide +kernel)) rfl
theorem q955 : Cond.arrayClass .boolean ∈ gtbl := gtbl_in (List.mem_of_getElem? (i := 955) (by decide +kernel)) rfl
theorem q956 : Cond.methodLink RL 19 yX7_print ∈ gtbl := gtbl_in (List.mem_of_getElem? (i := 956) (by decide +kernel)) rfl
theorem q957 : Cond.instanceMethod yX7_print ∈ gtbl := gtbl_in (List.mem_of_getElem? (i := 957) (by decide +kernel)) rfl
theorem q958 : Cond.selects RX7 yX7_print yX7_print ∈ gtbl := gtbl_in (List.mem_of_getElem? (i := 958) (by decide +kernel)) rfl
theorem q959 : Cond.code yX7_print cX7_print 4 (some .int) ∈ gtbl := gtbl_in (List.mem_of_getElem? (i := 959) (by decide +kernel)) rfl
theorem q960 : Cond.methodLink RX7 90 yX7_isKind ∈ gtbl := gtbl_in (List.mem_of_getElem? (i := 960) (by decide +kernel)) rfl
theorem q961 : Cond.static yX7_isKind ∈ gtbl := gtbl_in (List.mem_of_getElem? (i := 961) (by decide +kernel)) rfl
theorem q962 : Cond.code yX7_isKind cX7_isKind 1 (some .boolean) ∈ gtbl := gtbl_in (List.mem_of_getElem? (i := 962) (by decide +kernel)) rfl
theorem q963 : Cond.methodLink RX7 64 yX7_in ∈ gtbl := gtbl_in (List.mem_of_getElem? (i := 963) (by decide +kernel)) rfl
theorem q964 : Cond.static yX7_in ∈ gtbl := gtbl_in (List.mem_of_getElem? (i := 964) (by decide +kernel)) rfl
theorem q965 : Cond.code yX7_in cX7_in 3 (some .boolean) ∈ gtbl := gtbl_in (List.mem_of_getElem? (i := 965) (by decide +kernel)) rfl
theorem q966 : Cond.constant RX7 63 (-1000000001) ∈ gtbl := gtbl_in (List.mem_of_getElem? (i := 966) (by decide +kernel)) rfl
theorem q967 : Cond.methodLink RX7 94 yX7_finds ∈ gtbl := gtbl_in (List.mem_of_getElem? (i := 967) (by decide +kernel)) rfl
theorem q969 : Cond.instanceMethod yX7_finds ∈ gtbl := gtbl_in (List.mem_of_getElem? (i := 969) (by decide +kernel)) rfl
theorem q970 : Cond.code yX7_finds cX7_finds 2 (some .int) ∈ gtbl := gtbl_in (List.mem_of_getElem? (i := 970) (by decide +kernel)) rfl
theorem q971 : Cond.constant RX7 98 (-1000000002) ∈ gtbl := gtbl_in (List.mem_of_getElem? (i := 971) (by decide +kernel)) rfl
theorem q972 : Cond.methodLink RX7 99 yX7_addPrint ∈ gtbl := gtbl_in (List.mem_of_getElem? (i := 972) (by decide +kernel)) rfl
theorem q974 : Cond.instanceMethod yX7_addPrint ∈ gtbl := gtbl_in (List.mem_of_getElem? (i := 974) (by decide +kernel)) rfl
theorem q975 : Cond.code yX7_addPrint cX7_addPrint 8 none ∈ gtbl := gtbl_in (List.mem_of_getElem? (i := 975) (by decide +kernel)) rfl
theorem q976 : Cond.constantLong RX7 84 1099511627775 ∈ gtbl := gtbl_in (List.mem_of_getElem? (i := 976) (by decide +kernel)) rfl
theorem q977 : Cond.methodLink RX7 86 yX7_sets ∈ gtbl := gtbl_in (List.mem_of_getElem? (i := 977) (by decide +kernel)) rfl
theorem q979 : Cond.instanceMethod yX7_sets ∈ gtbl := gtbl_in (List.mem_of_getElem? (i := 979) (by decide +kernel)) rfl
theorem q980 : Cond.code yX7_sets cX7_sets 4 none ∈ gtbl := gtbl_in (List.mem_of_getElem? (i := 980) (by decide +kernel)) rfl
theorem q981 : Cond.methodLink RL 24 yX7_of ∈ gtbl := gtbl_in (List.mem_of_getElem? (i := 981) (by decide +kernel)) rfl
theorem q982 : Cond.instanceMethod yX7_of ∈ gtbl := gtbl_in (List.mem_of_getElem? (i := 982) (by decide +kernel)) rfl
theorem q983 : Cond.selects RX7 yX7_of yX7_of ∈ gtbl := gtbl_in (List.mem_of_getElem? (i := 983) (by decide +kernel)) rfl
theorem q984 : Cond.code yX7_of cX7_of 3 (some .int) ∈ gtbl := gtbl_in (List.mem_of_getElem? (i := 984) (by decide +kernel)) rfl
theorem q985 : Cond.methodLink RX7 103 yX7_isPrint ∈ gtbl := gtbl_in (List.mem_of_getElem? (i := 985) (by decide +kernel)) rfl
theorem q987 : Cond.instanceMethod yX7_isPrint ∈ gtbl := gtbl_in (List.mem_of_getElem? (i := 987) (by decide +kernel)) rfl
theorem q988 : Cond.code yX7_isPrint cX7_isPrint 2 (some .boolean) ∈ gtbl := gtbl_in (List.mem_of_getElem? (i := 988) (by decide +kernel)) rfl
theorem q989 : Cond.methodLink RX7 68 yX7_its ∈ gtbl := gtbl_in (List.mem_of_getElem? (i := 989) (by decide +kernel)) rfl
theorem q991 : Cond.instanceMethod yX7_its ∈ gtbl := gtbl_in (List.mem_of_getElem? (i := 991) (by decide +kernel)) rfl
theorem q992 : Cond.code yX7_its cX7_its 3 (some .int) ∈ gtbl := gtbl_in (List.mem_of_getElem? (i := 992) (by decide +kernel)) rfl
theorem q993 : Cond.methodLink RX7 106 yX7_trueWidth ∈ gtbl := gtbl_in (List.mem_of_getElem? (i := 993) (by decide +kernel)) rfl
theorem q995 : Cond.instanceMethod yX7_trueWidth ∈ gtbl := gtbl_in (List.mem_of_getElem? (i := 995) (by decide +kernel)) rfl
theorem q996 : Cond.code yX7_trueWidth cX7_trueWidth 3 (some .int) ∈ gtbl := gtbl_in (List.mem_of_getElem? (i := 996) (by decide +kernel)) rfl
theorem q997 : Cond.methodLink RX7 109 yX7_shows ∈ gtbl := gtbl_in (List.mem_of_getElem? (i := 997) (by decide +kernel)) rfl
theorem q999 : Cond.instanceMethod yX7_shows ∈ gtbl := gtbl_in (List.mem_of_getElem? (i := 999) (by decide +kernel)) rfl
theorem q1000 : Cond.code yX7_shows cX7_shows 2 (some .long) ∈ gtbl := gtbl_in (List.mem_of_getElem? (i := 1000) (by decide +kernel)) rfl
theorem q1001 : Cond.methodLink RX7 78 yX7_hides ∈ gtbl := gtbl_in (List.mem_of_getElem? (i := 1001) (by decide +kernel)) rfl
theorem q1003 : Cond.instanceMethod yX7_hides ∈ gtbl := gtbl_in (List.mem_of_getElem? (i := 1003) (by decide +kernel)) rfl
theorem q1004 : Cond.code yX7_hides cX7_hides 5 (some .long) ∈ gtbl := gtbl_in (List.mem_of_getElem? (i := 1004) (by decide +kernel)) rfl
theorem q1005 : Cond.constantLong RX7 72 1098437885952 ∈ gtbl := gtbl_in (List.mem_of_getElem? (i := 1005) (by decide +kernel)) rfl
theorem q1006 : Cond.constantLong RX7 74 733007751850 ∈ gtbl := gtbl_in (List.mem_of_getElem? (i := 1006) (by decide +kernel)) rfl
theorem q1007 : Cond.constantLong RX7 76 1099510579200 ∈ gtbl := gtbl_in (List.mem_of_getElem? (i := 1007) (by decide +kernel)) rfl
theorem q1008 : Cond.constantLong RX7 82 (-1) ∈ gtbl := gtbl_in (List.mem_of_getElem? (i := 1008) (by decide +kernel)) rfl
theorem q1009 : Cond.methodLink RX7 112 yX7_many ∈ gtbl := gtbl_in (List.mem_of_getElem? (i := 1009) (by decide +kernel)) rfl
theorem q1010 : Cond.static yX7_many ∈ gtbl := gtbl_in (List.mem_of_getElem? (i := 1010) (by decide +kernel)) rfl
theorem q1011 : Cond.code yX7_many cX7_many 5 (some .int) ∈ gtbl := gtbl_in (List.mem_of_getElem? (i := 1011) (by decide +kernel)) rfl
theorem q1012 : Cond.methodLink RL 29 yX7_marks ∈ gtbl := gtbl_in (List.mem_of_getElem? (i := 1012) (by decide +kernel)) rfl
theorem q1013 : Cond.instanceMethod yX7_marks ∈ gtbl := gtbl_in (List.mem_of_getElem? (i := 1013) (by decide +kernel)) rfl
theorem q1014 : Cond.selects RX7 yX7_marks yX7_marks ∈ gtbl := gtbl_in (List.mem_of_getElem? (i := 1014) (by decide +kernel)) rfl
theorem q1015 : Cond.code yX7_marks cX7_marks 3 (some .long) ∈ gtbl := gtbl_in (List.mem_of_getElem? (i := 1015) (by decide +kernel)) rfl
theorem q1016 : Cond.methodLink RL 34 yX7_set ∈ gtbl := gtbl_in (List.mem_of_getElem? (i := 1016) (by decide +kernel)) rfl
theorem q1017 : Cond.instanceMethod yX7_set ∈ gtbl := gtbl_in (List.mem_of_getElem? (i := 1017) (by decide +kernel)) rfl
theorem q1018 : Cond.selects RX7 yX7_set yX7_set ∈ gtbl := gtbl_in (List.mem_of_getElem? (i := 1018) (by decide +kernel)) rfl
theorem q1019 : Cond.code yX7_set cX7_set 5 (some .int) ∈ gtbl := gtbl_in (List.mem_of_getElem? (i := 1019) (by decide +kernel)) rfl
theorem q1020 : Cond.methodLink RX7 116 yX7_isTold ∈ gtbl := gtbl_in (List.mem_of_getElem? (i := 1020) (by decide +kernel)) rfl
theorem q1021 : Cond.static yX7_isTold ∈ gtbl := gtbl_in (List.mem_of_getElem? (i := 1021) (by decide +kernel)) rfl
theorem q1022 : Cond.code yX7_isTold cX7_isTold 2 (some .boolean) ∈ gtbl := gtbl_in (List.mem_of_getElem? (i := 1022) (by decide +kernel)) rfl
theorem q1023 : Cond.methodLink RL 39 yX7_scratch ∈ gtbl := gtbl_in (List.mem_of_getElem? (i := 1023) (by decide +kernel)) rfl
theorem q1024 : Cond.instanceMethod yX7_scratch ∈ gtbl := gtbl_in (List.mem_of_getElem? (i := 1024) (by decide +kernel)) rfl
theorem q1025 : Cond.selects RX7 yX7_scratch yX7_scratch ∈ gtbl := gtbl_in (List.mem_of_getElem? (i := 1025) (by decide +kernel)) rfl
theorem q1026 : Cond.code yX7_scratch cX7_scratch 6 (some .int) ∈ gtbl := gtbl_in (List.mem_of_getElem? (i := 1026) (by decide +kernel)) rfl
theorem q1027 : Cond.methodLink RL 44 yX7_look ∈ gtbl := gtbl_in (List.mem_of_getElem? (i := 1027) (by decide +kernel)) rfl
theorem q1028 : Cond.instanceMethod yX7_look ∈ gtbl := gtbl_in (List.mem_of_getElem? (i := 1028) (by decide +kernel)) rfl
theorem q1029 : Cond.selects RX7 yX7_look yX7_look ∈ gtbl := gtbl_in (List.mem_of_getElem? (i := 1029) (by decide +kernel)) rfl
theorem q1030 : Cond.code yX7_look cX7_look 3 (some .int) ∈ gtbl := gtbl_in (List.mem_of_getElem? (i := 1030) (by decide +kernel)) rfl
theorem q1031 : Cond.methodLink RL 48 yX7_turn ∈ gtbl := gtbl_in (List.mem_of_getElem? (i := 1031) (by decide +kernel)) rfl
theorem q1032 : Cond.instanceMethod yX7_turn ∈ gtbl := gtbl_in (List.mem_of_getElem? (i := 1032) (by decide +kernel)) rfl
theorem q1033 : Cond.selects RX7 yX7_turn yX7_turn ∈ gtbl := gtbl_in (List.mem_of_getElem? (i := 1033) (by decide +kernel)) rfl
theorem q1034 : Cond.code yX7_turn cX7_turn 4 (some .int) ∈ gtbl := gtbl_in (List.mem_of_getElem? (i := 1034) (by decide +kernel)) rfl
theorem q1035 : Cond.methodLink RL 52 yX7_as ∈ gtbl := gtbl_in (List.mem_of_getElem? (i := 1035) (by decide +kernel)) rfl
theorem q1036 : Cond.instanceMethod yX7_as ∈ gtbl := gtbl_in (List.mem_of_getElem? (i := 1036) (by decide +kernel)) rfl
theorem q1037 : Cond.selects RX7 yX7_as yX7_as ∈ gtbl := gtbl_in (List.mem_of_getElem? (i := 1037) (by decide +kernel)) rfl
theorem q1038 : Cond.code yX7_as cX7_as 3 (some .int) ∈ gtbl := gtbl_in (List.mem_of_getElem? (i := 1038) (by decide +kernel)) rfl
theorem q1039 : Cond.methodLink RX7 120 yX7_isUnder ∈ gtbl := gtbl_in (List.mem_of_getElem? (i := 1039) (by decide +kernel)) rfl
theorem q1040 : Cond.static yX7_isUnder ∈ gtbl := gtbl_in (List.mem_of_getElem? (i := 1040) (by decide +kernel)) rfl
theorem q1041 : Cond.code yX7_isUnder cX7_isUnder 2 (some .boolean) ∈ gtbl := gtbl_in (List.mem_of_getElem? (i := 1041) (by decide +kernel)) rfl
theorem q1042 : Cond.constant RX7 123 (-1000000003) ∈ gtbl := gtbl_in (List.mem_of_getElem? (i := 1042) (by decide +kernel)) rfl
theorem q1043 : Cond.methodLink RL 56 yX7_slack ∈ gtbl := gtbl_in (List.mem_of_getElem? (i := 1043) (by decide +kernel)) rfl
theorem q1044 : Cond.instanceMethod yX7_slack ∈ gtbl := gtbl_in (List.mem_of_getElem? (i := 1044) (by decide +kernel)) rfl
theorem q1045 : Cond.selects RX7 yX7_slack yX7_slack ∈ gtbl := gtbl_in (List.mem_of_getElem? (i := 1045) (by decide +kernel)) rfl
theorem q1046 : Cond.code yX7_slack cX7_slack 3 (some .int) ∈ gtbl := gtbl_in (List.mem_of_getElem? (i := 1046) (by decide +kernel)) rfl
theorem q1047 : Cond.methodLink RL 60 yX7_ahead ∈ gtbl := gtbl_in (List.mem_of_getElem? (i := 1047) (by decide +kernel)) rfl
theorem q1048 : Cond.instanceMethod yX7_ahead ∈ gtbl := gtbl_in (List.mem_of_getElem? (i := 1048) (by decide +kernel)) rfl
theorem q1049 : Cond.selects RX7 yX7_ahead yX7_ahead ∈ gtbl := gtbl_in (List.mem_of_getElem? (i := 1049) (by decide +kernel)) rfl
theorem q1050 : Cond.code yX7_ahead cX7_ahead 3 (some .int) ∈ gtbl := gtbl_in (List.mem_of_getElem? (i := 1050) (by decide +kernel)) rfl
theorem q1051 : Cond.methodLink RX7 130 yX7_areTwo ∈ gtbl := gtbl_in (List.mem_of_getElem? (i := 1051) (by decide +kernel)) rfl
theorem q1053 : Cond.instanceMethod yX7_areTwo ∈ gtbl := gtbl_in (List.mem_of_getElem? (i := 1053) (by decide +kernel)) rfl
theorem q1054 : Cond.code yX7_areTwo cX7_areTwo 3 (some .boolean) ∈ gtbl := gtbl_in (List.mem_of_getElem? (i := 1054) (by decide +kernel)) rfl
theorem q1055 : Cond.methodLink RX7 133 yX7_canBe ∈ gtbl := gtbl_in (List.mem_of_getElem? (i := 1055) (by decide +kernel)) rfl
theorem q1057 : Cond.instanceMethod yX7_canBe ∈ gtbl := gtbl_in (List.mem_of_getElem? (i := 1057) (by decide +kernel)) rfl
theorem q1058 : Cond.code yX7_canBe cX7_canBe 3 (some .boolean) ∈ gtbl := gtbl_in (List.mem_of_getElem? (i := 1058) (by decide +kernel)) rfl
theorem q1059 : Cond.methodLink RX7 124 yX7_marksAllow ∈ gtbl := gtbl_in (List.mem_of_getElem? (i := 1059) (by decide +kernel)) rfl
theorem q1061 : Cond.instanceMethod yX7_marksAllow ∈ gtbl := gtbl_in (List.mem_of_getElem? (i := 1061) (by decide +kernel)) rfl
theorem q1062 : Cond.code yX7_marksAllow cX7_marksAllow 3 (some .boolean) ∈ gtbl := gtbl_in (List.mem_of_getElem? (i := 1062) (by decide +kernel)) rfl
theorem q1063 : Cond.methodLink RX7 127 yX7_apartBy ∈ gtbl := gtbl_in (List.mem_of_getElem? (i := 1063) (by decide +kernel)) rfl
theorem q1065 : Cond.instanceMethod yX7_apartBy ∈ gtbl := gtbl_in (List.mem_of_getElem? (i := 1065) (by decide +kernel)) rfl
theorem q1066 : Cond.code yX7_apartBy cX7_apartBy 4 (some .int) ∈ gtbl := gtbl_in (List.mem_of_getElem? (i := 1066) (by decide +kernel)) rfl
theorem q1067 : Cond.methodLink RL 64 yX7_order ∈ gtbl := gtbl_in (List.mem_of_getElem? (i := 1067) (by decide +kernel)) rfl
theorem q1068 : Cond.instanceMethod yX7_order ∈ gtbl := gtbl_in (List.mem_of_getElem? (i := 1068) (by decide +kernel)) rfl
theorem q1069 : Cond.selects RX7 yX7_order yX7_order ∈ gtbl := gtbl_in (List.mem_of_getElem? (i := 1069) (by decide +kernel)) rfl
theorem q1070 : Cond.code yX7_order cX7_order 3 (some .int) ∈ gtbl := gtbl_in (List.mem_of_getElem? (i := 1070) (by decide +kernel)) rfl
theorem q1071 : Cond.methodLink RL 68 yX7_alike ∈ gtbl := gtbl_in (List.mem_of_getElem? (i := 1071) (by decide +kernel)) rfl
theorem q1072 : Cond.instanceMethod yX7_alike ∈ gtbl := gtbl_in (List.mem_of_getElem? (i := 1072) (by decide +kernel)) rfl
theorem q1073 : Cond.selects RX7 yX7_alike yX7_alike ∈ gtbl := gtbl_in (List.mem_of_getElem? (i := 1073) (by decide +kernel)) rfl
theorem q1074 : Cond.code yX7_alike cX7_alike 5 (some .int) ∈ gtbl := gtbl_in (List.mem_of_getElem? (i := 1074) (by decide +kernel)) rfl
theorem q1075 : Cond.methodLink RL 72 yX7_slackFor ∈ gtbl := gtbl_in (List.mem_of_getElem? (i := 1075) (by decide +kernel)) rfl
theorem q1076 : Cond.instanceMethod yX7_slackFor ∈ gtbl := gtbl_in (List.mem_of_getElem? (i := 1076) (by decide +kernel)) rfl
theorem q1077 : Cond.selects RX7 yX7_slackFor yX7_slackFor ∈ gtbl := gtbl_in (List.mem_of_getElem? (i := 1077) (by decide +kernel)) rfl
theorem q1078 : Cond.code yX7_slackFor cX7_slackFor 5 (some .int) ∈ gtbl := gtbl_in (List.mem_of_getElem? (i := 1078) (by decide +kernel)) rfl
theorem q1079 : Cond.constant RX7 136 (-1000000004) ∈ gtbl := gtbl_in (List.mem_of_getElem? (i := 1079) (by decide +kernel)) rfl
theorem q1080 : Cond.methodLink RL 76 yX7_came ∈ gtbl := gtbl_in (List.mem_of_getElem? (i := 1080) (by decide +kernel)) rfl
theorem q1081 : Cond.instanceMethod yX7_came ∈ gtbl := gtbl_in (List.mem_of_getElem? (i := 1081) (by decide +kernel)) rfl
theorem q1082 : Cond.selects RX7 yX7_came yX7_came ∈ gtbl := gtbl_in (List.mem_of_getElem? (i := 1082) (by decide +kernel)) rfl
theorem q1083 : Cond.code yX7_came cX7_came 3 (some .int) ∈ gtbl := gtbl_in (List.mem_of_getElem? (i := 1083) (by decide +kernel)) rfl
theorem q1084 : Cond.constant RX7 137 (-1000000005) ∈ gtbl := gtbl_in (List.mem_of_getElem? (i := 1084) (by decide +kernel)) rfl
theorem q1085 : Cond.methodLink RL 80 yX7_ring ∈ gtbl := gtbl_in (List.mem_of_getElem? (i := 1085) (by decide +kernel)) rfl
theorem q1086 : Cond.instanceMethod yX7_ring ∈ gtbl := gtbl_in (List.mem_of_getElem? (i := 1086) (by decide +kernel)) rfl
theorem q1087 : Cond.selects RX7 yX7_ring yX7_ring ∈ gtbl := gtbl_in (List.mem_of_getElem? (i := 1087) (by decide +kernel)) rfl
theorem q1088 : Cond.code yX7_ring cX7_ring 2 (some .int) ∈ gtbl := gtbl_in (List.mem_of_getElem? (i := 1088) (by decide +kernel)) rfl
theorem q1089 : Cond.methodLink RX7 156 yX7_isSet ∈ gtbl := gtbl_in (List.mem_of_getElem? (i := 1089) (by decide +kernel)) rfl
theorem q1091 : Cond.instanceMethod yX7_isSet ∈ gtbl := gtbl_in (List.mem_of_getElem? (i := 1091) (by decide +kernel)) rfl
theorem q1092 : Cond.code yX7_isSet cX7_isSet 2 (some .boolean) ∈ gtbl := gtbl_in (List.mem_of_getElem? (i := 1092) (by decide +kernel)) rfl
theorem q1093 : Cond.methodLink RX7 159 yX7_findRings ∈ gtbl := gtbl_in (List.mem_of_getElem? (i := 1093) (by decide +kernel)) rfl
theorem q1095 : Cond.instanceMethod yX7_findRings ∈ gtbl := gtbl_in (List.mem_of_getElem? (i := 1095) (by decide +kernel)) rfl
theorem q1096 : Cond.code yX7_findRings cX7_findRings 4 none ∈ gtbl := gtbl_in (List.mem_of_getElem? (i := 1096) (by decide +kernel)) rfl
theorem q1097 : Cond.methodLink RX7 147 yX7_findCan ∈ gtbl := gtbl_in (List.mem_of_getElem? (i := 1097) (by decide +kernel)) rfl
theorem q1099 : Cond.instanceMethod yX7_findCan ∈ gtbl := gtbl_in (List.mem_of_getElem? (i := 1099) (by decide +kernel)) rfl
theorem q1100 : Cond.code yX7_findCan cX7_findCan 4 none ∈ gtbl := gtbl_in (List.mem_of_getElem? (i := 1100) (by decide +kernel)) rfl
theorem q1101 : Cond.methodLink RX7 138 yX7_isEarlier ∈ gtbl := gtbl_in (List.mem_of_getElem? (i := 1101) (by decide +kernel)) rfl
theorem q1103 : Cond.instanceMethod yX7_isEarlier ∈ gtbl := gtbl_in (List.mem_of_getElem? (i := 1103) (by decide +kernel)) rfl
theorem q1104 : Cond.code yX7_isEarlier cX7_isEarlier 3 (some .boolean) ∈ gtbl := gtbl_in (List.mem_of_getElem? (i := 1104) (by decide +kernel)) rfl
theorem q1105 : Cond.methodLink RX7 150 yX7_lowest ∈ gtbl := gtbl_in (List.mem_of_getElem? (i := 1105) (by decide +kernel)) rfl
theorem q1106 : Cond.static yX7_lowest ∈ gtbl := gtbl_in (List.mem_of_getElem? (i := 1106) (by decide +kernel)) rfl
theorem q1107 : Cond.code yX7_lowest cX7_lowest 2 (some .int) ∈ gtbl := gtbl_in (List.mem_of_getElem? (i := 1107) (by decide +kernel)) rfl
theorem q1108 : Cond.methodLink RX7 141 yX7_has ∈ gtbl := gtbl_in (List.mem_of_getElem? (i := 1108) (by decide +kernel)) rfl
theorem q1109 : Cond.static yX7_has ∈ gtbl := gtbl_in (List.mem_of_getElem? (i := 1109) (by decide +kernel)) rfl
theorem q1110 : Cond.code yX7_has cX7_has 2 (some .boolean) ∈ gtbl := gtbl_in (List.mem_of_getElem? (i := 1110) (by decide +kernel)) rfl
theorem q1111 : Cond.methodLink RX7 153 yX7_isWithAll ∈ gtbl := gtbl_in (List.mem_of_getElem? (i := 1111) (by decide +kernel)) rfl
theorem q1113 : Cond.instanceMethod yX7_isWithAll ∈ gtbl := gtbl_in (List.mem_of_getElem? (i := 1113) (by decide +kernel)) rfl
theorem q1114 : Cond.code yX7_isWithAll cX7_isWithAll 5 (some .boolean) ∈ gtbl := gtbl_in (List.mem_of_getElem? (i := 1114) (by decide +kernel)) rfl
theorem q1115 : Cond.methodLink RX7 144 yX7_areOfOne ∈ gtbl := gtbl_in (List.mem_of_getElem? (i := 1115) (by decide +kernel)) rfl
theorem q1117 : Cond.instanceMethod yX7_areOfOne ∈ gtbl := gtbl_in (List.mem_of_getElem? (i := 1117) (by decide +kernel)) rfl
theorem q1118 : Cond.code yX7_areOfOne cX7_areOfOne 3 (some .boolean) ∈ gtbl := gtbl_in (List.mem_of_getElem? (i := 1118) (by decide +kernel)) rfl
theorem q1119 : Cond.methodLink RL 84 yX7_most ∈ gtbl := gtbl_in (List.mem_of_getElem? (i := 1119) (by decide +kernel)) rfl
theorem q1120 : Cond.instanceMethod yX7_most ∈ gtbl := gtbl_in (List.mem_of_getElem? (i := 1120) (by decide +kernel)) rfl
theorem q1121 : Cond.selects RX7 yX7_most yX7_most ∈ gtbl := gtbl_in (List.mem_of_getElem? (i := 1121) (by decide +kernel)) rfl
theorem q1122 : Cond.code yX7_most cX7_most 2 (some .int) ∈ gtbl := gtbl_in (List.mem_of_getElem? (i := 1122) (by decide +kernel)) rfl
theorem q1123 : Cond.methodLink RX7 165 yX7_bestOf ∈ gtbl := gtbl_in (List.mem_of_getElem? (i := 1123) (by decide +kernel)) rfl
theorem q1125 : Cond.instanceMethod yX7_bestOf ∈ gtbl := gtbl_in (List.mem_of_getElem? (i := 1125) (by decide +kernel)) rfl
theorem q1126 : Cond.code yX7_bestOf cX7_bestOf 5 (some .int) ∈ gtbl := gtbl_in (List.mem_of_getElem? (i := 1126) (by decide +kernel)) rfl
theorem q1127 : Cond.methodLink RX7 162 yX7_ones ∈ gtbl := gtbl_in (List.mem_of_getElem? (i := 1127) (by decide +kernel)) rfl
theorem q1128 : Cond.static yX7_ones ∈ gtbl := gtbl_in (List.mem_of_getElem? (i := 1128) (by decide +kernel)) rfl
theorem q1129 : Cond.code yX7_ones cX7_ones 3 (some .int) ∈ gtbl := gtbl_in (List.mem_of_getElem? (i := 1129) (by decide +kernel)) rfl
theorem q1130 : Cond.methodLink RL 88 yX7_best ∈ gtbl := gtbl_in (List.mem_of_getElem? (i := 1130) (by decide +kernel)) rfl
theorem q1131 : Cond.instanceMethod yX7_best ∈ gtbl := gtbl_in (List.mem_of_getElem? (i := 1131) (by decide +kernel)) rfl
theorem q1132 : Cond.selects RX7 yX7_best yX7_best ∈ gtbl := gtbl_in (List.mem_of_getElem? (i := 1132) (by decide +kernel)) rfl
theorem q1133 : Cond.code yX7_best cX7_best 2 (some .int) ∈ gtbl := gtbl_in (List.mem_of_getElem? (i := 1133) (by decide +kernel)) rfl
theorem q1134 : Cond.methodLink RL 92 yX7_fewest ∈ gtbl := gtbl_in (List.mem_of_getElem? (i := 1134) (by decide +kernel)) rfl
theorem q1135 : Cond.instanceMethod yX7_fewest ∈ gtbl := gtbl_in (List.mem_of_getElem? (i := 1135) (by decide +kernel)) rfl
theorem q1136 : Cond.selects RX7 yX7_fewest yX7_fewest ∈ gtbl := gtbl_in (List.mem_of_getElem? (i := 1136) (by decide +kernel)) rfl
theorem q1137 : Cond.code yX7_fewest cX7_fewest 2 (some .int) ∈ gtbl := gtbl_in (List.mem_of_getElem? (i := 1137) (by decide +kernel)) rfl
theorem q1138 : Cond.methodLink RX7 168 yX7_fewestOf ∈ gtbl := gtbl_in (List.mem_of_getElem? (i := 1138) (by decide +kernel)) rfl
theorem q1140 : Cond.instanceMethod yX7_fewestOf ∈ gtbl := gtbl_in (List.mem_of_getElem? (i := 1140) (by decide +kernel)) rfl
theorem q1141 : Cond.code yX7_fewestOf cX7_fewestOf 9 (some .int) ∈ gtbl := gtbl_in (List.mem_of_getElem? (i := 1141) (by decide +kernel)) rfl
theorem q1142 : Cond.methodLink RL 96 yX7_alone ∈ gtbl := gtbl_in (List.mem_of_getElem? (i := 1142) (by decide +kernel)) rfl
theorem q1143 : Cond.instanceMethod yX7_alone ∈ gtbl := gtbl_in (List.mem_of_getElem? (i := 1143) (by decide +kernel)) rfl
theorem q1144 : Cond.selects RX7 yX7_alone yX7_alone ∈ gtbl := gtbl_in (List.mem_of_getElem? (i := 1144) (by decide +kernel)) rfl
theorem q1145 : Cond.code yX7_alone cX7_alone 6 (some .int) ∈ gtbl := gtbl_in (List.mem_of_getElem? (i := 1145) (by decide +kernel)) rfl
theorem q1146 : Cond.methodLink RL 100 yX7_orders ∈ gtbl := gtbl_in (List.mem_of_getElem? (i := 1146) (by decide +kernel)) rfl
theorem q1147 : Cond.instanceMethod yX7_orders ∈ gtbl := gtbl_in (List.mem_of_getElem? (i := 1147) (by decide +kernel)) rfl
theorem q1148 : Cond.selects RX7 yX7_orders yX7_orders ∈ gtbl := gtbl_in (List.mem_of_getElem? (i := 1148) (by decide +kernel)) rfl
theorem q1149 : Cond.code yX7_orders cX7_orders 2 (some .int) ∈ gtbl := gtbl_in (List.mem_of_getElem? (i := 1149) (by decide +kernel)) rfl
theorem q1150 : Cond.constant RX7 174 (-1000000007) ∈ gtbl := gtbl_in (List.mem_of_getElem? (i := 1150) (by decide +kernel)) rfl
theorem q1151 : Cond.methodLink RX7 175 yX7_findOrders ∈ gtbl := gtbl_in (List.mem_of_getElem? (i := 1151) (by decide +kernel)) rfl
theorem q1153 : Cond.instanceMethod yX7_findOrders ∈ gtbl := gtbl_in (List.mem_of_getElem? (i := 1153) (by decide +kernel)) rfl
theorem q1154 : Cond.code yX7_findOrders cX7_findOrders 6 none ∈ gtbl := gtbl_in (List.mem_of_getElem? (i := 1154) (by decide +kernel)) rfl
theorem q1155 : Cond.methodLink RX7 171 yX7_isAheadOf ∈ gtbl := gtbl_in (List.mem_of_getElem? (i := 1155) (by decide +kernel)) rfl
theorem q1157 : Cond.instanceMethod yX7_isAheadOf ∈ gtbl := gtbl_in (List.mem_of_getElem? (i := 1157) (by decide +kernel)) rfl
theorem q1158 : Cond.code yX7_isAheadOf cX7_isAheadOf 5 (some .boolean) ∈ gtbl := gtbl_in (List.mem_of_getElem? (i := 1158) (by decide +kernel)) rfl
theorem q1159 : Cond.methodLink RL 104 yX7_ith ∈ gtbl := gtbl_in (List.mem_of_getElem? (i := 1159) (by decide +kernel)) rfl
theorem q1160 : Cond.instanceMethod yX7_ith ∈ gtbl := gtbl_in (List.mem_of_getElem? (i := 1160) (by decide +kernel)) rfl
theorem q1161 : Cond.selects RX7 yX7_ith yX7_ith ∈ gtbl := gtbl_in (List.mem_of_getElem? (i := 1161) (by decide +kernel)) rfl
theorem q1162 : Cond.code yX7_ith cX7_ith 6 (some .int) ∈ gtbl := gtbl_in (List.mem_of_getElem? (i := 1162) (by decide +kernel)) rfl
theorem q1163 : Cond.methodLink RL 108 yX7_falseDate ∈ gtbl := gtbl_in (List.mem_of_getElem? (i := 1163) (by decide +kernel)) rfl
theorem q1164 : Cond.instanceMethod yX7_falseDate ∈ gtbl := gtbl_in (List.mem_of_getElem? (i := 1164) (by decide +kernel)) rfl
theorem q1165 : Cond.selects RX7 yX7_falseDate yX7_falseDate ∈ gtbl := gtbl_in (List.mem_of_getElem? (i := 1165) (by decide +kernel)) rfl
theorem q1166 : Cond.code yX7_falseDate cX7_falseDate 3 (some .int) ∈ gtbl := gtbl_in (List.mem_of_getElem? (i := 1166) (by decide +kernel)) rfl
theorem q1167 : Cond.methodLink RX7 179 yX7_fitsSomewhere ∈ gtbl := gtbl_in (List.mem_of_getElem? (i := 1167) (by decide +kernel)) rfl
theorem q1169 : Cond.instanceMethod yX7_fitsSomewhere ∈ gtbl := gtbl_in (List.mem_of_getElem? (i := 1169) (by decide +kernel)) rfl
theorem q1170 : Cond.code yX7_fitsSomewhere cX7_fitsSomewhere 7 (some .boolean) ∈ gtbl := gtbl_in (List.mem_of_getElem? (i := 1170) (by decide +kernel)) rfl
theorem q1171 : Cond.methodLink RL 112 yX7_had ∈ gtbl := gtbl_in (List.mem_of_getElem? (i := 1171) (by decide +kernel)) rfl
theorem q1172 : Cond.instanceMethod yX7_had ∈ gtbl := gtbl_in (List.mem_of_getElem? (i := 1172) (by decide +kernel)) rfl
theorem q1173 : Cond.selects RX7 yX7_had yX7_had ∈ gtbl := gtbl_in (List.mem_of_getElem? (i := 1173) (by decide +kernel)) rfl
theorem q1174 : Cond.code yX7_had cX7_had 7 (some .long) ∈ gtbl := gtbl_in (List.mem_of_getElem? (i := 1174) (by decide +kernel)) rfl
theorem q1175 : Cond.methodLink RL 116 yX7_hadNot ∈ gtbl := gtbl_in (List.mem_of_getElem? (i := 1175) (by decide +kernel)) rfl
theorem q1176 : Cond.instanceMethod yX7_hadNot ∈ gtbl := gtbl_in (List.mem_of_getElem? (i := 1176) (by decide +kernel)) rfl
theorem q1177 : Cond.selects RX7 yX7_hadNot yX7_hadNot ∈ gtbl := gtbl_in (List.mem_of_getElem? (i := 1177) (by decide +kernel)) rfl
theorem q1178 : Cond.code yX7_hadNot cX7_hadNot 8 (some .long) ∈ gtbl := gtbl_in (List.mem_of_getElem? (i := 1178) (by decide +kernel)) rfl
theorem q1179 : Cond.methodLink RL 120 yX7_castOf ∈ gtbl := gtbl_in (List.mem_of_getElem? (i := 1179) (by decide +kernel)) rfl
theorem q1180 : Cond.instanceMethod yX7_castOf ∈ gtbl := gtbl_in (List.mem_of_getElem? (i := 1180) (by decide +kernel)) rfl
theorem q1181 : Cond.selects RX7 yX7_castOf yX7_castOf ∈ gtbl := gtbl_in (List.mem_of_getElem? (i := 1181) (by decide +kernel)) rfl
theorem q1182 : Cond.code yX7_castOf cX7_castOf 3 (some .int) ∈ gtbl := gtbl_in (List.mem_of_getElem? (i := 1182) (by decide +kernel)) rfl
theorem q1183 : Cond.methodLink RX7 185 yX7_isCast ∈ gtbl := gtbl_in (List.mem_of_getElem? (i := 1183) (by decide +kernel)) rfl
theorem q1185 : Cond.instanceMethod yX7_isCast ∈ gtbl := gtbl_in (List.mem_of_getElem? (i := 1185) (by decide +kernel)) rfl
theorem q1186 : Cond.code yX7_isCast cX7_isCast 2 (some .boolean) ∈ gtbl := gtbl_in (List.mem_of_getElem? (i := 1186) (by decide +kernel)) rfl
theorem q1187 : Cond.methodLink RX7 188 yX7_fromOf ∈ gtbl := gtbl_in (List.mem_of_getElem? (i := 1187) (by decide +kernel)) rfl
theorem q1189 : Cond.instanceMethod yX7_fromOf ∈ gtbl := gtbl_in (List.mem_of_getElem? (i := 1189) (by decide +kernel)) rfl
theorem q1190 : Cond.code yX7_fromOf cX7_fromOf 3 (some .int) ∈ gtbl := gtbl_in (List.mem_of_getElem? (i := 1190) (by decide +kernel)) rfl
theorem q1191 : Cond.methodLink RX7 182 yX7_canBeCast ∈ gtbl := gtbl_in (List.mem_of_getElem? (i := 1191) (by decide +kernel)) rfl
theorem q1193 : Cond.instanceMethod yX7_canBeCast ∈ gtbl := gtbl_in (List.mem_of_getElem? (i := 1193) (by decide +kernel)) rfl
theorem q1194 : Cond.code yX7_canBeCast cX7_canBeCast 5 (some .boolean) ∈ gtbl := gtbl_in (List.mem_of_getElem? (i := 1194) (by decide +kernel)) rfl
theorem q1195 : Cond.methodLink RL 124 yX7_deep ∈ gtbl := gtbl_in (List.mem_of_getElem? (i := 1195) (by decide +kernel)) rfl
theorem q1196 : Cond.instanceMethod yX7_deep ∈ gtbl := gtbl_in (List.mem_of_getElem? (i := 1196) (by decide +kernel)) rfl
theorem q1197 : Cond.selects RX7 yX7_deep yX7_deep ∈ gtbl := gtbl_in (List.mem_of_getElem? (i := 1197) (by decide +kernel)) rfl
theorem q1198 : Cond.code yX7_deep cX7_deep 6 (some .int) ∈ gtbl := gtbl_in (List.mem_of_getElem? (i := 1198) (by decide +kernel)) rfl
theorem q1199 : Cond.methodLink RL 129 yX7_tell ∈ gtbl := gtbl_in (List.mem_of_getElem? (i := 1199) (by decide +kernel)) rfl
theorem q1200 : Cond.instanceMethod yX7_tell ∈ gtbl := gtbl_in (List.mem_of_getElem? (i := 1200) (by decide +kernel)) rfl
theorem q1201 : Cond.selects RX7 yX7_tell yX7_tell ∈ gtbl := gtbl_in (List.mem_of_getElem? (i := 1201) (by decide +kernel)) rfl
theorem q1202 : Cond.code yX7_tell cX7_tell 7 (some .int) ∈ gtbl := gtbl_in (List.mem_of_getElem? (i := 1202) (by decide +kernel)) rfl
theorem q1203 : Cond.methodLink RL 133 yX7_kind ∈ gtbl := gtbl_in (List.mem_of_getElem? (i := 1203) (by decide +kernel)) rfl
theorem q1204 : Cond.instanceMethod yX7_kind ∈ gtbl := gtbl_in (List.mem_of_getElem? (i := 1204) (by decide +kernel)) rfl
theorem q1205 : Cond.selects RX7 yX7_kind yX7_kind ∈ gtbl := gtbl_in (List.mem_of_getElem? (i := 1205) (by decide +kernel)) rfl
theorem q1206 : Cond.code yX7_kind cX7_kind 7 (some .int) ∈ gtbl := gtbl_in (List.mem_of_getElem? (i := 1206) (by decide +kernel)) rfl
theorem q1207 : Cond.methodLink RX7 191 yX7_withHow ∈ gtbl := gtbl_in (List.mem_of_getElem? (i := 1207) (by decide +kernel)) rfl
theorem q1209 : Cond.instanceMethod yX7_withHow ∈ gtbl := gtbl_in (List.mem_of_getElem? (i := 1209) (by decide +kernel)) rfl
theorem q1210 : Cond.code yX7_withHow cX7_withHow 4 (some .int) ∈ gtbl := gtbl_in (List.mem_of_getElem? (i := 1210) (by decide +kernel)) rfl
theorem q1211 : Cond.methodLink RL 137 yX7_pairs ∈ gtbl := gtbl_in (List.mem_of_getElem? (i := 1211) (by decide +kernel)) rfl
theorem q1212 : Cond.instanceMethod yX7_pairs ∈ gtbl := gtbl_in (List.mem_of_getElem? (i := 1212) (by decide +kernel)) rfl
theorem q1213 : Cond.selects RX7 yX7_pairs yX7_pairs ∈ gtbl := gtbl_in (List.mem_of_getElem? (i := 1213) (by decide +kernel)) rfl
theorem q1214 : Cond.code yX7_pairs cX7_pairs 3 (some .int) ∈ gtbl := gtbl_in (List.mem_of_getElem? (i := 1214) (by decide +kernel)) rfl
theorem q1215 : Cond.methodLink RL 141 yX7_feed ∈ gtbl := gtbl_in (List.mem_of_getElem? (i := 1215) (by decide +kernel)) rfl
theorem q1216 : Cond.instanceMethod yX7_feed ∈ gtbl := gtbl_in (List.mem_of_getElem? (i := 1216) (by decide +kernel)) rfl
theorem q1217 : Cond.selects RX7 yX7_feed yX7_feed ∈ gtbl := gtbl_in (List.mem_of_getElem? (i := 1217) (by decide +kernel)) rfl
theorem q1218 : Cond.code yX7_feed cX7_feed 4 (some .int) ∈ gtbl := gtbl_in (List.mem_of_getElem? (i := 1218) (by decide +kernel)) rfl
theorem q1219 : Cond.methodLink RL 145 yX7_wipe ∈ gtbl := gtbl_in (List.mem_of_getElem? (i := 1219) (by decide +kernel)) rfl
theorem q1220 : Cond.instanceMethod yX7_wipe ∈ gtbl := gtbl_in (List.mem_of_getElem? (i := 1220) (by decide +kernel)) rfl
theorem q1221 : Cond.selects RX7 yX7_wipe yX7_wipe ∈ gtbl := gtbl_in (List.mem_of_getElem? (i := 1221) (by decide +kernel)) rfl
theorem q1222 : Cond.code yX7_wipe cX7_wipe 2 (some .int) ∈ gtbl := gtbl_in (List.mem_of_getElem? (i := 1222) (by decide +kernel)) rfl
theorem q1223 : Cond.methodLink RL 149 yX7_text ∈ gtbl := gtbl_in (List.mem_of_getElem? (i := 1223) (by decide +kernel)) rfl
theorem q1224 : Cond.instanceMethod yX7_text ∈ gtbl := gtbl_in (List.mem_of_getElem? (i := 1224) (by decide +kernel)) rfl
theorem q1225 : Cond.selects RX7 yX7_text yX7_text ∈ gtbl := gtbl_in (List.mem_of_getElem? (i := 1225) (by decide +kernel)) rfl
theorem q1226 : Cond.code yX7_text cX7_text 3 (some .int) ∈ gtbl := gtbl_in (List.mem_of_getElem? (i := 1226) (by decide +kernel)) rfl
theorem q1227 : Cond.methodLink RX7 280 yX7_moveAll ∈ gtbl := gtbl_in (List.mem_of_getElem? (i := 1227) (by decide +kernel)) rfl
theorem q1229 : Cond.instanceMethod yX7_moveAll ∈ gtbl := gtbl_in (List.mem_of_getElem? (i := 1229) (by decide +kernel)) rfl
theorem q1230 : Cond.code yX7_moveAll cX7_moveAll 5 none ∈ gtbl := gtbl_in (List.mem_of_getElem? (i := 1230) (by decide +kernel)) rfl
theorem q1231 : Cond.methodLink RX7 247 yX7_advance ∈ gtbl := gtbl_in (List.mem_of_getElem? (i := 1231) (by decide +kernel)) rfl
theorem q1233 : Cond.instanceMethod yX7_advance ∈ gtbl := gtbl_in (List.mem_of_getElem? (i := 1233) (by decide +kernel)) rfl
theorem q1234 : Cond.code yX7_advance cX7_advance 2 none ∈ gtbl := gtbl_in (List.mem_of_getElem? (i := 1234) (by decide +kernel)) rfl
theorem q1235 : Cond.methodLink RX7 204 yX7_byteAt ∈ gtbl := gtbl_in (List.mem_of_getElem? (i := 1235) (by decide +kernel)) rfl
theorem q1237 : Cond.instanceMethod yX7_byteAt ∈ gtbl := gtbl_in (List.mem_of_getElem? (i := 1237) (by decide +kernel)) rfl
theorem q1238 : Cond.code yX7_byteAt cX7_byteAt 2 (some .int) ∈ gtbl := gtbl_in (List.mem_of_getElem? (i := 1238) (by decide +kernel)) rfl
theorem q1239 : Cond.methodLink RX7 207 yX7_isLetter ∈ gtbl := gtbl_in (List.mem_of_getElem? (i := 1239) (by decide +kernel)) rfl
theorem q1240 : Cond.static yX7_isLetter ∈ gtbl := gtbl_in (List.mem_of_getElem? (i := 1240) (by decide +kernel)) rfl
theorem q1241 : Cond.code yX7_isLetter cX7_isLetter 1 (some .boolean) ∈ gtbl := gtbl_in (List.mem_of_getElem? (i := 1241) (by decide +kernel)) rfl
theorem q1242 : Cond.methodLink RX7 210 yX7_isDigit ∈ gtbl := gtbl_in (List.mem_of_getElem? (i := 1242) (by decide +kernel)) rfl
theorem q1243 : Cond.static yX7_isDigit ∈ gtbl := gtbl_in (List.mem_of_getElem? (i := 1243) (by decide +kernel)) rfl
theorem q1244 : Cond.code yX7_isDigit cX7_isDigit 1 (some .boolean) ∈ gtbl := gtbl_in (List.mem_of_getElem? (i := 1244) (by decide +kernel)) rfl
theorem q1245 : Cond.constantLong RX7 223 27 ∈ gtbl := gtbl_in (List.mem_of_getElem? (i := 1245) (by decide +kernel)) rfl
theorem q1246 : Cond.constantLong RX7 225 96 ∈ gtbl := gtbl_in (List.mem_of_getElem? (i := 1246) (by decide +kernel)) rfl
theorem q1247 : Cond.methodLink RX7 284 yX7_wantItem ∈ gtbl := gtbl_in (List.mem_of_getElem? (i := 1247) (by decide +kernel)) rfl
theorem q1249 : Cond.instanceMethod yX7_wantItem ∈ gtbl := gtbl_in (List.mem_of_getElem? (i := 1249) (by decide +kernel)) rfl
theorem q1250 : Cond.code yX7_wantItem cX7_wantItem 1 none ∈ gtbl := gtbl_in (List.mem_of_getElem? (i := 1250) (by decide +kernel)) rfl
theorem q1251 : Cond.methodLink RX7 263 yX7_kindHere ∈ gtbl := gtbl_in (List.mem_of_getElem? (i := 1251) (by decide +kernel)) rfl
theorem q1253 : Cond.instanceMethod yX7_kindHere ∈ gtbl := gtbl_in (List.mem_of_getElem? (i := 1253) (by decide +kernel)) rfl
theorem q1254 : Cond.code yX7_kindHere cX7_kindHere 1 (some .int) ∈ gtbl := gtbl_in (List.mem_of_getElem? (i := 1254) (by decide +kernel)) rfl
theorem q1255 : Cond.constantLong RX7 227 8864309 ∈ gtbl := gtbl_in (List.mem_of_getElem? (i := 1255) (by decide +kernel)) rfl
theorem q1256 : Cond.methodLink RX7 229 yX7_isWord ∈ gtbl := gtbl_in (List.mem_of_getElem? (i := 1256) (by decide +kernel)) rfl
theorem q1258 : Cond.instanceMethod yX7_isWord ∈ gtbl := gtbl_in (List.mem_of_getElem? (i := 1258) (by decide +kernel)) rfl
theorem q1259 : Cond.code yX7_isWord cX7_isWord 3 (some .boolean) ∈ gtbl := gtbl_in (List.mem_of_getElem? (i := 1259) (by decide +kernel)) rfl
theorem q1260 : Cond.constantLong RX7 233 1489745 ∈ gtbl := gtbl_in (List.mem_of_getElem? (i := 1260) (by decide +kernel)) rfl
theorem q1261 : Cond.constantLong RX7 235 60311 ∈ gtbl := gtbl_in (List.mem_of_getElem? (i := 1261) (by decide +kernel)) rfl
theorem q1262 : Cond.constantLong RX7 237 94424593 ∈ gtbl := gtbl_in (List.mem_of_getElem? (i := 1262) (by decide +kernel)) rfl
theorem q1263 : Cond.constantLong RX7 239 9667127 ∈ gtbl := gtbl_in (List.mem_of_getElem? (i := 1263) (by decide +kernel)) rfl
theorem q1264 : Cond.constantLong RX7 241 189443911 ∈ gtbl := gtbl_in (List.mem_of_getElem? (i := 1264) (by decide +kernel)) rfl
theorem q1265 : Cond.methodLink RX7 267 yX7_wantPrint ∈ gtbl := gtbl_in (List.mem_of_getElem? (i := 1265) (by decide +kernel)) rfl
theorem q1267 : Cond.instanceMethod yX7_wantPrint ∈ gtbl := gtbl_in (List.mem_of_getElem? (i := 1267) (by decide +kernel)) rfl
theorem q1268 : Cond.code yX7_wantPrint cX7_wantPrint 8 none ∈ gtbl := gtbl_in (List.mem_of_getElem? (i := 1268) (by decide +kernel)) rfl
theorem q1269 : Cond.constantLong RX7 253 12403754 ∈ gtbl := gtbl_in (List.mem_of_getElem? (i := 1269) (by decide +kernel)) rfl
theorem q1270 : Cond.methodLink RX7 255 yX7_mayWant ∈ gtbl := gtbl_in (List.mem_of_getElem? (i := 1270) (by decide +kernel)) rfl
theorem q1272 : Cond.instanceMethod yX7_mayWant ∈ gtbl := gtbl_in (List.mem_of_getElem? (i := 1272) (by decide +kernel)) rfl
theorem q1273 : Cond.code yX7_mayWant cX7_mayWant 6 (some .int) ∈ gtbl := gtbl_in (List.mem_of_getElem? (i := 1273) (by decide +kernel)) rfl
theorem q1274 : Cond.methodLink RX7 250 yX7_wantNumber ∈ gtbl := gtbl_in (List.mem_of_getElem? (i := 1274) (by decide +kernel)) rfl
theorem q1276 : Cond.instanceMethod yX7_wantNumber ∈ gtbl := gtbl_in (List.mem_of_getElem? (i := 1276) (by decide +kernel)) rfl
theorem q1277 : Cond.code yX7_wantNumber cX7_wantNumber 4 (some .int) ∈ gtbl := gtbl_in (List.mem_of_getElem? (i := 1277) (by decide +kernel)) rfl
theorem q1278 : Cond.constantLong RX7 259 495765 ∈ gtbl := gtbl_in (List.mem_of_getElem? (i := 1278) (by decide +kernel)) rfl
theorem q1279 : Cond.constantLong RX7 261 377771 ∈ gtbl := gtbl_in (List.mem_of_getElem? (i := 1279) (by decide +kernel)) rfl
theorem q1280 : Cond.constantLong RX7 270 10334396 ∈ gtbl := gtbl_in (List.mem_of_getElem? (i := 1280) (by decide +kernel)) rfl
theorem q1281 : Cond.methodLink RX7 272 yX7_wantSlack ∈ gtbl := gtbl_in (List.mem_of_getElem? (i := 1281) (by decide +kernel)) rfl
theorem q1283 : Cond.instanceMethod yX7_wantSlack ∈ gtbl := gtbl_in (List.mem_of_getElem? (i := 1283) (by decide +kernel)) rfl
theorem q1284 : Cond.code yX7_wantSlack cX7_wantSlack 2 none ∈ gtbl := gtbl_in (List.mem_of_getElem? (i := 1284) (by decide +kernel)) rfl
theorem q1285 : Cond.constantLong RX7 275 247547 ∈ gtbl := gtbl_in (List.mem_of_getElem? (i := 1285) (by decide +kernel)) rfl
theorem q1286 : Cond.methodLink RX7 277 yX7_wantLook ∈ gtbl := gtbl_in (List.mem_of_getElem? (i := 1286) (by decide +kernel)) rfl
theorem q1288 : Cond.instanceMethod yX7_wantLook ∈ gtbl := gtbl_in (List.mem_of_getElem? (i := 1288) (by decide +kernel)) rfl
theorem q1289 : Cond.code yX7_wantLook cX7_wantLook 2 none ∈ gtbl := gtbl_in (List.mem_of_getElem? (i := 1289) (by decide +kernel)) rfl
theorem q1290 : Cond.methodLink RL 153 yX7_sheet ∈ gtbl := gtbl_in (List.mem_of_getElem? (i := 1290) (by decide +kernel)) rfl
theorem q1291 : Cond.instanceMethod yX7_sheet ∈ gtbl := gtbl_in (List.mem_of_getElem? (i := 1291) (by decide +kernel)) rfl
theorem q1292 : Cond.selects RX7 yX7_sheet yX7_sheet ∈ gtbl := gtbl_in (List.mem_of_getElem? (i := 1292) (by decide +kernel)) rfl
theorem q1293 : Cond.code yX7_sheet cX7_sheet 5 (some .int) ∈ gtbl := gtbl_in (List.mem_of_getElem? (i := 1293) (by decide +kernel)) rfl
theorem q1294 : Cond.methodLink RX7 287 yX7_isSheet ∈ gtbl := gtbl_in (List.mem_of_getElem? (i := 1294) (by decide +kernel)) rfl
theorem q1295 : Cond.static yX7_isSheet ∈ gtbl := gtbl_in (List.mem_of_getElem? (i := 1295) (by decide +kernel)) rfl
theorem q1296 : Cond.code yX7_isSheet cX7_isSheet 1 (some .boolean) ∈ gtbl := gtbl_in (List.mem_of_getElem? (i := 1296) (by decide +kernel)) rfl
theorem q1297 : Cond.methodLink RL 158 yX7_write ∈ gtbl := gtbl_in (List.mem_of_getElem? (i := 1297) (by decide +kernel)) rfl
theorem q1298 : Cond.instanceMethod yX7_write ∈ gtbl := gtbl_in (List.mem_of_getElem? (i := 1298) (by decide +kernel)) rfl
theorem q1299 : Cond.selects RX7 yX7_write yX7_write ∈ gtbl := gtbl_in (List.mem_of_getElem? (i := 1299) (by decide +kernel)) rfl
theorem q1300 : Cond.code yX7_write cX7_write 7 (some .long) ∈ gtbl := gtbl_in (List.mem_of_getElem? (i := 1300) (by decide +kernel)) rfl
theorem q1301 : Cond.constant RX7 290 (-1000000006) ∈ gtbl := gtbl_in (List.mem_of_getElem? (i := 1301) (by decide +kernel)) rfl
theorem q1302 : Cond.methodLink RX7 291 yX7_narrow ∈ gtbl := gtbl_in (List.mem_of_getElem? (i := 1302) (by decide +kernel)) rfl
theorem q1303 : Cond.static yX7_narrow ∈ gtbl := gtbl_in (List.mem_of_getElem? (i := 1303) (by decide +kernel)) rfl
theorem q1304 : Cond.code yX7_narrow cX7_narrow 3 (some .long) ∈ gtbl := gtbl_in (List.mem_of_getElem? (i := 1304) (by decide +kernel)) rfl
theorem q1305 : Cond.methodLink RL 163 yX7_copy ∈ gtbl := gtbl_in (List.mem_of_getElem? (i := 1305) (by decide +kernel)) rfl
theorem q1306 : Cond.instanceMethod yX7_copy ∈ gtbl := gtbl_in (List.mem_of_getElem? (i := 1306) (by decide +kernel)) rfl
theorem q1307 : Cond.selects RX7 yX7_copy yX7_copy ∈ gtbl := gtbl_in (List.mem_of_getElem? (i := 1307) (by decide +kernel)) rfl
theorem q1308 : Cond.code yX7_copy cX7_copy 7 (some .int) ∈ gtbl := gtbl_in (List.mem_of_getElem? (i := 1308) (by decide +kernel)) rfl
theorem q1309 : Cond.methodLink RX7 295 yX7_isPart ∈ gtbl := gtbl_in (List.mem_of_getElem? (i := 1309) (by decide +kernel)) rfl
theorem q1311 : Cond.instanceMethod yX7_isPart ∈ gtbl := gtbl_in (List.mem_of_getElem? (i := 1311) (by decide +kernel)) rfl
theorem q1312 : Cond.code yX7_isPart cX7_isPart 4 (some .boolean) ∈ gtbl := gtbl_in (List.mem_of_getElem? (i := 1312) (by decide +kernel)) rfl
theorem q1313 : Cond.methodLink RL 167 yX7_dates ∈ gtbl := gtbl_in (List.mem_of_getElem? (i := 1313) (by decide +kernel)) rfl
theorem q1314 : Cond.instanceMethod yX7_dates ∈ gtbl := gtbl_in (List.mem_of_getElem? (i := 1314) (by decide +kernel)) rfl
theorem q1315 : Cond.selects RX7 yX7_dates yX7_dates ∈ gtbl := gtbl_in (List.mem_of_getElem? (i := 1315) (by decide +kernel)) rfl
theorem q1316 : Cond.code yX7_dates cX7_dates 6 (some .int) ∈ gtbl := gtbl_in (List.mem_of_getElem? (i := 1316) (by decide +kernel)) rfl
theorem q1317 : Cond.constantLong RX7 298 2000 ∈ gtbl := gtbl_in (List.mem_of_getElem? (i := 1317) (by decide +kernel)) rfl
theorem q1318 : Cond.methodLink RL 171 yX7_show ∈ gtbl := gtbl_in (List.mem_of_getElem? (i := 1318) (by decide +kernel)) rfl
theorem q1319 : Cond.instanceMethod yX7_show ∈ gtbl := gtbl_in (List.mem_of_getElem? (i := 1319) (by decide +kernel)) rfl
theorem q1320 : Cond.selects RX7 yX7_show yX7_show ∈ gtbl := gtbl_in (List.mem_of_getElem? (i := 1320) (by decide +kernel)) rfl
theorem q1321 : Cond.code yX7_show cX7_show 3 (some .int) ∈ gtbl := gtbl_in (List.mem_of_getElem? (i := 1321) (by decide +kernel)) rfl
theorem q1322 : Cond.methodLink RL 175 yX7_read ∈ gtbl := gtbl_in (List.mem_of_getElem? (i := 1322) (by decide +kernel)) rfl
theorem q1323 : Cond.instanceMethod yX7_read ∈ gtbl := gtbl_in (List.mem_of_getElem? (i := 1323) (by decide +kernel)) rfl
theorem q1324 : Cond.selects RX7 yX7_read yX7_read ∈ gtbl := gtbl_in (List.mem_of_getElem? (i := 1324) (by decide +kernel)) rfl
theorem q1325 : Cond.code yX7_read cX7_read 10 (some .int) ∈ gtbl := gtbl_in (List.mem_of_getElem? (i := 1325) (by decide +kernel)) rfl
theorem q1326 : Cond.methodLink RL 179 yX7_image ∈ gtbl := gtbl_in (List.mem_of_getElem? (i := 1326) (by decide +kernel)) rfl
theorem q1327 : Cond.instanceMethod yX7_image ∈ gtbl := gtbl_in (List.mem_of_getElem? (i := 1327) (by decide +kernel)) rfl
theorem q1328 : Cond.selects RX7 yX7_image yX7_image ∈ gtbl := gtbl_in (List.mem_of_getElem? (i := 1328) (by decide +kernel)) rfl
theorem q1329 : Cond.code yX7_image cX7_image 1 (some .int) ∈ gtbl := gtbl_in (List.mem_of_getElem? (i := 1329) (by decide +kernel)) rfl
theorem q1330 : Cond.methodLink RL 183 yX7_undo ∈ gtbl := gtbl_in (List.mem_of_getElem? (i := 1330) (by decide +kernel)) rfl
theorem q1331 : Cond.instanceMethod yX7_undo ∈ gtbl := gtbl_in (List.mem_of_getElem? (i := 1331) (by decide +kernel)) rfl
theorem q1332 : Cond.selects RX7 yX7_undo yX7_undo ∈ gtbl := gtbl_in (List.mem_of_getElem? (i := 1332) (by decide +kernel)) rfl
theorem q1333 : Cond.code yX7_undo cX7_undo 1 (some .int) ∈ gtbl := gtbl_in (List.mem_of_getElem? (i := 1333) (by decide +kernel)) rfl
theorem q1334 : Cond.methodLink RL 187 yX7_tear ∈ gtbl := gtbl_in (List.mem_of_getElem? (i := 1334) (by decide +kernel)) rfl
theorem q1335 : Cond.instanceMethod yX7_tear ∈ gtbl := gtbl_in (List.mem_of_getElem? (i := 1335) (by decide +kernel)) rfl
theorem q1336 : Cond.selects RX7 yX7_tear yX7_tear ∈ gtbl := gtbl_in (List.mem_of_getElem? (i := 1336) (by decide +kernel)) rfl
theorem q1337 : Cond.code yX7_tear cX7_tear 2 (some .int) ∈ gtbl := gtbl_in (List.mem_of_getElem? (i := 1337) (by decide +kernel)) rfl
theorem q1338 : Cond.methodLink RL 191 yX7_count ∈ gtbl := gtbl_in (List.mem_of_getElem? (i := 1338) (by decide +kernel)) rfl
theorem q1339 : Cond.instanceMethod yX7_count ∈ gtbl := gtbl_in (List.mem_of_getElem? (i := 1339) (by decide +kernel)) rfl
theorem q1340 : Cond.selects RX7 yX7_count yX7_count ∈ gtbl := gtbl_in (List.mem_of_getElem? (i := 1340) (by decide +kernel)) rfl
theorem q1341 : Cond.code yX7_count cX7_count 4 (some .int) ∈ gtbl := gtbl_in (List.mem_of_getElem? (i := 1341) (by decide +kernel)) rfl
theorem q1342 : Cond.methodLink RL 195 yX7_status ∈ gtbl := gtbl_in (List.mem_of_getElem? (i := 1342) (by decide +kernel)) rfl
theorem q1343 : Cond.instanceMethod yX7_status ∈ gtbl := gtbl_in (List.mem_of_getElem? (i := 1343) (by decide +kernel)) rfl
theorem q1344 : Cond.selects RX7 yX7_status yX7_status ∈ gtbl := gtbl_in (List.mem_of_getElem? (i := 1344) (by decide +kernel)) rfl
theorem q1345 : Cond.code yX7_status cX7_status 4 (some .int) ∈ gtbl := gtbl_in (List.mem_of_getElem? (i := 1345) (by decide +kernel)) rfl
theorem q1346 : Cond.constantLong RL 13 4294967295 ∈ gtbl := gtbl_in (List.mem_of_getElem? (i := 1346) (by decide +kernel)) rfl
theorem q1347 : Cond.fieldLink RJ0 9 RJ0 "value" "[B" ∈ gtbl := gtbl_in (List.mem_of_getElem? (i := 1347) (by decide +kernel)) rfl
theorem q1348 : Cond.fieldLink RJ0 15 RJ0 "coder" "B" ∈ gtbl := gtbl_in (List.mem_of_getElem? (i := 1348) (by decide +kernel)) rfl
