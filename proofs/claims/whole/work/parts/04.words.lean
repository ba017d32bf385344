/-! the words that every method takes: the good ones of the tables -/
def gtbl : List Cond := lw_tbl.filter goodWord
theorem gtbl_in {w : Cond} (h : w ∈ lw_tbl) (g : goodWord w = true) : w ∈ gtbl := List.mem_filter.mpr ⟨h, g⟩
theorem gtbl_good : GoodIn gtbl gtbl := fun _ h => ⟨h, good_of_word (List.mem_filter.mp h).2⟩
theorem igX0 : ∀ w ∈ wsX00, w ∈ gtbl := fun w h => gtbl_in (inX0 w h) (List.all_eq_true.mp (show wsX00.all goodWord = true by decide +kernel) w h)
theorem igX1 : ∀ w ∈ wsX10, w ∈ gtbl := fun w h => gtbl_in (inX1 w h) (List.all_eq_true.mp (show wsX10.all goodWord = true by decide +kernel) w h)
theorem igX2 : ∀ w ∈ wsX20, w ∈ gtbl := fun w h => gtbl_in (inX2 w h) (List.all_eq_true.mp (show wsX20.all goodWord = true by decide +kernel) w h)
theorem igX3 : ∀ w ∈ wsX30, w ∈ gtbl := fun w h => gtbl_in (inX3 w h) (List.all_eq_true.mp (show wsX30.all goodWord = true by decide +kernel) w h)
theorem igX4 : ∀ w ∈ wsX40, w ∈ gtbl := fun w h => gtbl_in (inX4 w h) (List.all_eq_true.mp (show wsX40.all goodWord = true by decide +kernel) w h)
theorem igX5 : ∀ w ∈ wsX50, w ∈ gtbl := fun w h => gtbl_in (inX5 w h) (List.all_eq_true.mp (show wsX50.all goodWord = true by decide +kernel) w h)
theorem igX6 : ∀ w ∈ wsX60, w ∈ gtbl := fun w h => gtbl_in (inX6 w h) (List.all_eq_true.mp (show wsX60.all goodWord = true by decide +kernel) w h)
theorem igX7 : ∀ w ∈ wsX70, w ∈ gtbl := fun w h => gtbl_in (inX7 w h) (List.all_eq_true.mp (show wsX70.all goodWord = true by decide +kernel) w h)
theorem q0 : Cond.selects RX6 yX6_found yX6_found ∈ gtbl := gtbl_in (List.mem_of_getElem? (i := 0) (by decide +kernel)) rfl
theorem q1 : Cond.selects RX6 yX6_areTwo yX6_areTwo ∈ gtbl := gtbl_in (List.mem_of_getElem? (i := 1) (by decide +kernel)) rfl
