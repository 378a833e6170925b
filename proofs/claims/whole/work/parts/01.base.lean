/-! the words that are good, the state of both sides, numbers and names -/
def WL : List Cond := lw_tbl.filter goodWord
theorem WL_good (c : Cond) (hc : c ∈ WL) : GoodIn (c :: WL) (c :: WL) := by
  intro w hw
  refine ⟨hw, good_of_word ?_⟩
  rcases List.mem_cons.mp hw with rfl | h
  · exact (List.mem_filter.mp hc).2
  · exact (List.mem_filter.mp h).2
theorem WL_in {w : Cond} (h : w ∈ lw_tbl) (hg : goodWord w = true) : w ∈ WL := List.mem_filter.mpr ⟨h, hg⟩
theorem WL_t {w : Cond} (h : w ∈ tables_1) (hg : goodWord w = true) : w ∈ WL := WL_in (List.mem_append_right _ h) hg
theorem WL_p {w : Cond} (h : w ∈ k2_sels lw_privs) (hg : goodWord w = true) : w ∈ WL := WL_in (List.mem_append_left _ h) hg
theorem WL_1 {w : Cond} (h : w ∈ tables_1_1) (hg : goodWord w = true) : w ∈ WL := WL_t (List.mem_append_left _ h) hg
theorem WL_2 {w : Cond} (h : w ∈ tables_1_2) (hg : goodWord w = true) : w ∈ WL := WL_t (List.mem_append_right _ (List.mem_append_left _ h)) hg
theorem WL_3 {w : Cond} (h : w ∈ tables_1_3) (hg : goodWord w = true) : w ∈ WL := WL_t (List.mem_append_right _ (List.mem_append_right _ (List.mem_append_left _ h))) hg
theorem WL_4 {w : Cond} (h : w ∈ tables_1_4) (hg : goodWord w = true) : w ∈ WL := WL_t (List.mem_append_right _ (List.mem_append_right _ (List.mem_append_right _ (List.mem_append_left _ h)))) hg
theorem WL_5 {w : Cond} (h : w ∈ tables_1_5) (hg : goodWord w = true) : w ∈ WL := WL_t (List.mem_append_right _ (List.mem_append_right _ (List.mem_append_right _ (List.mem_append_right _ (List.mem_append_left _ h))))) hg
theorem WL_6 {w : Cond} (h : w ∈ tables_1_6) (hg : goodWord w = true) : w ∈ WL := WL_t (List.mem_append_right _ (List.mem_append_right _ (List.mem_append_right _ (List.mem_append_right _ (List.mem_append_right _ (List.mem_append_left _ h)))))) hg
theorem WL_7 {w : Cond} (h : w ∈ tables_1_7) (hg : goodWord w = true) : w ∈ WL := WL_t (List.mem_append_right _ (List.mem_append_right _ (List.mem_append_right _ (List.mem_append_right _ (List.mem_append_right _ (List.mem_append_right _ h)))))) hg
abbrev Ev : Type := (Nat → Nat) × va_G × (Nat → ClassId)
