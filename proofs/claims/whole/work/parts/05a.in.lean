/-! words by their places in the tables -/
def tblD : List (List Cond) := [k2_sels lw_privs, tables_1_1, tables_1_2, tables_1_3, tables_1_4, tables_1_5, tables_1_6, tables_1_7, tables_1_8, tables_1_9, tables_1_10]
theorem inT0 : ∀ (l : List (List Cond)) (w : Cond) (j q : Nat), (l.getD j [])[q]? = some w → w ∈ l.flatten := by
  intro l w j q h
  rw [List.mem_flatten]
  by_cases hj : j < l.length
  · refine ⟨l[j], List.getElem_mem hj, ?_⟩
    have e : l.getD j [] = l[j] := by simp [List.getD, hj]
    rw [e] at h
    exact List.mem_of_getElem? h
  · have e : l.getD j [] = [] := by simp [List.getD, Nat.not_lt.mp hj]
    rw [e] at h
    simp at h
theorem tblD_eq : tblD.flatten = lw_tbl := by simp [tblD, lw_tbl, tables_1]
theorem inT {ws : List Cond} (ps : List (Nat × Nat)) (h : ws = ps.filterMap (fun q => (tblD.getD q.1 [])[q.2]?)) : ∀ w ∈ ws, w ∈ lw_tbl := by
  intro w hw
  rw [h, List.mem_filterMap] at hw
  obtain ⟨⟨j, q⟩, -, hz⟩ := hw
  rw [← tblD_eq]
  exact inT0 tblD w j q hz
theorem goodT {ws : List Cond} (hi : ∀ w ∈ ws, w ∈ lw_tbl) (h : ws.all goodWord = true) : GoodIn lw_tbl ws := fun w hw => ⟨hi w hw, good_of_word (List.all_eq_true.mp h w hw)⟩
set_option maxRecDepth 100000 in
theorem inX0 : ∀ w ∈ wsX00, w ∈ lw_tbl := inT [(1, 154), (1, 156)] rfl
set_option maxRecDepth 100000 in
theorem inX1 : ∀ w ∈ wsX10, w ∈ lw_tbl := inT [(1, 172), (1, 174), (1, 176), (1, 178)] rfl
set_option maxRecDepth 100000 in
theorem inX2 : ∀ w ∈ wsX20, w ∈ lw_tbl := inT [(2, 0), (2, 2), (2, 4), (2, 6), (2, 8)] rfl
set_option maxRecDepth 100000 in
theorem inX4 : ∀ w ∈ wsX40, w ∈ lw_tbl := inT [(2, 29), (2, 31), (2, 33), (2, 35), (2, 37)] rfl
set_option maxRecDepth 100000 in
theorem inX5 : ∀ w ∈ wsX50, w ∈ lw_tbl := inT [(1, 58), (1, 60)] rfl
set_option maxRecDepth 100000 in
theorem inX6 : ∀ w ∈ wsX60, w ∈ lw_tbl := inT [(2, 158), (2, 160), (2, 162), (2, 164), (2, 166), (2, 168), (2, 170), (2, 172), (2, 174), (2, 176)] rfl
set_option maxRecDepth 100000 in
theorem inX7 : ∀ w ∈ wsX70, w ∈ lw_tbl := inT [(1, 107), (1, 109), (1, 111), (1, 113), (1, 115), (1, 117), (1, 119), (1, 121), (1, 123), (1, 125), (1, 127), (1, 129), (1, 131), (1, 133), (1, 135), (1, 137)] rfl
set_option maxRecDepth 100000 in
theorem inX8 : ∀ w ∈ wsX80, w ∈ lw_tbl := inT [(2, 65), (2, 67), (2, 69), (2, 71), (2, 73), (2, 75), (2, 77), (2, 79), (2, 81), (2, 83), (2, 85), (2, 87), (2, 89), (2, 91), (2, 93), (2, 95)] rfl
set_option maxRecDepth 100000 in
theorem inX9 : ∀ w ∈ wsX90, w ∈ lw_tbl := inT [(1, 211), (1, 213), (1, 215), (1, 217), (1, 219), (1, 221), (1, 223), (1, 225)] rfl
set_option maxRecDepth 100000 in
theorem inX10 : ∀ w ∈ wsX100, w ∈ lw_tbl := inT [(2, 110), (2, 112), (2, 114), (2, 116), (2, 118), (2, 120), (2, 122), (2, 124), (2, 126), (2, 128), (2, 130)] rfl
set_option maxRecDepth 100000 in
theorem inX11 : ∀ w ∈ wsX110, w ∈ lw_tbl := inT [(7, 129), (7, 131), (7, 133), (7, 135), (7, 137), (7, 139), (7, 141), (7, 143), (7, 145), (7, 147), (7, 149), (7, 151), (7, 153), (7, 155), (7, 157), (7, 159), (7, 161), (7, 163), (7, 165), (7, 167), (7, 169), (7, 171), (7, 173), (7, 175), (7, 177), (7, 179), (7, 181), (7, 183), (7, 185), (7, 187)] rfl
