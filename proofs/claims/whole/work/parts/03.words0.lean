/-! ===== the good words of the tables ===== -/
section VMW0
def xTs : List Cond := lw_tbl.filter goodWord
theorem xin {w : Cond} (h : w ∈ lw_tbl) (g : goodWord w = true) : w ∈ xTs := List.mem_filter.mpr ⟨h, g⟩
end VMW0
