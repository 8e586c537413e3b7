/-- the words that every later state keeps -/
def lw_g : List Cond := lw_tbl.filter goodWord
theorem lw_g_sub : ∀ w ∈ lw_g, w ∈ lw_tbl := fun w h => (List.mem_filter.mp h).1
theorem lw_good : ∀ w ∈ lw_g, goodWord w = true := fun w h => (List.mem_filter.mp h).2
