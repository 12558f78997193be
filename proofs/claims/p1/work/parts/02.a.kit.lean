/-! ===== the good words of the tables: every method's words are its code and these ===== -/
def gw : List Cond := lw_tbl.filter goodWord
theorem gw_mem {w : Cond} (h : w ∈ lw_tbl) (hg : goodWord w = true) : w ∈ gw := List.mem_filter.mpr ⟨h, hg⟩
theorem gw_good {w : Cond} (h : w ∈ gw) : goodWord w = true := (List.mem_filter.mp h).2
theorem gw_tbl {w : Cond} (h : w ∈ gw) : w ∈ lw_tbl := (List.mem_filter.mp h).1
theorem gw_in : GoodIn gw gw := fun w h => ⟨h, good_of_word (gw_good h)⟩
theorem tst1 : Cond.fieldLink RX11 45 "TwoSlips" "taped" "I" ∈ gw := gw_mem (by decide +kernel) (by decide +kernel)
theorem tst2 : Cond.fieldLink RX11 9 "TwoSlips" "tape" "[B" ∈ gw := gw_mem (by decide +kernel) (by decide +kernel)
theorem tst3 : Cond.code yX11_putBytes cX11_putBytes 3 none ∈ gw := gw_mem (by decide +kernel) (by decide +kernel)
theorem tst4 : Cond.initialized RX11 ∈ gw := gw_mem (by decide +kernel) (by decide +kernel)
theorem in_0 : ∀ w ∈ u_ws RX11 TX11 10, w ∈ lw_tbl := by decide +kernel
