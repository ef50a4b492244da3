/-! the words of the tables that every method of ours may use: the same list for all -/
def WT : List Cond := lw_tbl.filter goodWord
theorem WT_in : ∀ w ∈ WT, w ∈ lw_tbl := fun w h => (List.mem_filter.mp h).1
theorem WT_good : ∀ w ∈ WT, goodWord w = true := fun w h => (List.mem_filter.mp h).2
theorem WT_of {w : Cond} (h : w ∈ lw_tbl) (g : goodWord w = true) : w ∈ WT := List.mem_filter.mpr ⟨h, g⟩
theorem WT_goodIn (y : MethodName) (bytes : ByteArray) (n : Nat) (ret : Option FieldType) (h : Cond.code y bytes n ret ∈ WT) : GoodIn WT (Cond.code y bytes n ret :: WT) := by
  intro w hw
  rcases List.mem_cons.mp hw with rfl | hw
  · exact ⟨h, good_of_word (WT_good _ h)⟩
  · exact ⟨hw, good_of_word (WT_good _ hw)⟩
