theorem lw_tbl_eq : lw_tbl = k2_sels lw_privs ++ (tables_1_1 ++ (tables_1_2 ++ (tables_1_3 ++ (tables_1_4 ++ (tables_1_5 ++ (tables_1_6 ++ (tables_1_7 ++ tables_1_8))))))) := rfl
theorem lw_g0 {w : Cond} {i : Nat} (h : (k2_sels lw_privs)[i]? = some w) : w ∈ lw_tbl := by
  rw [lw_tbl_eq]
  exact List.mem_append_left _ (List.mem_of_getElem? h)
theorem big_g0 {w : Cond} {i : Nat} (h : (k2_sels lw_privs)[i]? = some w) (hg : goodWord w = true) : w ∈ BIG := List.mem_filter.mpr ⟨lw_g0 h, hg⟩
theorem lw_g1 {w : Cond} {i : Nat} (h : (tables_1_1)[i]? = some w) : w ∈ lw_tbl := by
  rw [lw_tbl_eq]
  exact List.mem_append_right _ (List.mem_append_left _ (List.mem_of_getElem? h))
theorem big_g1 {w : Cond} {i : Nat} (h : (tables_1_1)[i]? = some w) (hg : goodWord w = true) : w ∈ BIG := List.mem_filter.mpr ⟨lw_g1 h, hg⟩
theorem lw_g2 {w : Cond} {i : Nat} (h : (tables_1_2)[i]? = some w) : w ∈ lw_tbl := by
  rw [lw_tbl_eq]
  exact List.mem_append_right _ (List.mem_append_right _ (List.mem_append_left _ (List.mem_of_getElem? h)))
theorem big_g2 {w : Cond} {i : Nat} (h : (tables_1_2)[i]? = some w) (hg : goodWord w = true) : w ∈ BIG := List.mem_filter.mpr ⟨lw_g2 h, hg⟩
theorem lw_g3 {w : Cond} {i : Nat} (h : (tables_1_3)[i]? = some w) : w ∈ lw_tbl := by
  rw [lw_tbl_eq]
  exact List.mem_append_right _ (List.mem_append_right _ (List.mem_append_right _ (List.mem_append_left _ (List.mem_of_getElem? h))))
theorem big_g3 {w : Cond} {i : Nat} (h : (tables_1_3)[i]? = some w) (hg : goodWord w = true) : w ∈ BIG := List.mem_filter.mpr ⟨lw_g3 h, hg⟩
theorem lw_g4 {w : Cond} {i : Nat} (h : (tables_1_4)[i]? = some w) : w ∈ lw_tbl := by
  rw [lw_tbl_eq]
  exact List.mem_append_right _ (List.mem_append_right _ (List.mem_append_right _ (List.mem_append_right _ (List.mem_append_left _ (List.mem_of_getElem? h)))))
theorem big_g4 {w : Cond} {i : Nat} (h : (tables_1_4)[i]? = some w) (hg : goodWord w = true) : w ∈ BIG := List.mem_filter.mpr ⟨lw_g4 h, hg⟩
theorem lw_g5 {w : Cond} {i : Nat} (h : (tables_1_5)[i]? = some w) : w ∈ lw_tbl := by
  rw [lw_tbl_eq]
  exact List.mem_append_right _ (List.mem_append_right _ (List.mem_append_right _ (List.mem_append_right _ (List.mem_append_right _ (List.mem_append_left _ (List.mem_of_getElem? h))))))
theorem big_g5 {w : Cond} {i : Nat} (h : (tables_1_5)[i]? = some w) (hg : goodWord w = true) : w ∈ BIG := List.mem_filter.mpr ⟨lw_g5 h, hg⟩
theorem lw_g6 {w : Cond} {i : Nat} (h : (tables_1_6)[i]? = some w) : w ∈ lw_tbl := by
  rw [lw_tbl_eq]
  exact List.mem_append_right _ (List.mem_append_right _ (List.mem_append_right _ (List.mem_append_right _ (List.mem_append_right _ (List.mem_append_right _ (List.mem_append_left _ (List.mem_of_getElem? h)))))))
theorem big_g6 {w : Cond} {i : Nat} (h : (tables_1_6)[i]? = some w) (hg : goodWord w = true) : w ∈ BIG := List.mem_filter.mpr ⟨lw_g6 h, hg⟩
theorem lw_g7 {w : Cond} {i : Nat} (h : (tables_1_7)[i]? = some w) : w ∈ lw_tbl := by
  rw [lw_tbl_eq]
  exact List.mem_append_right _ (List.mem_append_right _ (List.mem_append_right _ (List.mem_append_right _ (List.mem_append_right _ (List.mem_append_right _ (List.mem_append_right _ (List.mem_append_left _ (List.mem_of_getElem? h))))))))
theorem big_g7 {w : Cond} {i : Nat} (h : (tables_1_7)[i]? = some w) (hg : goodWord w = true) : w ∈ BIG := List.mem_filter.mpr ⟨lw_g7 h, hg⟩
theorem lw_g8 {w : Cond} {i : Nat} (h : (tables_1_8)[i]? = some w) : w ∈ lw_tbl := by
  rw [lw_tbl_eq]
  exact List.mem_append_right _ (List.mem_append_right _ (List.mem_append_right _ (List.mem_append_right _ (List.mem_append_right _ (List.mem_append_right _ (List.mem_append_right _ (List.mem_append_right _ (List.mem_of_getElem? h))))))))
theorem big_g8 {w : Cond} {i : Nat} (h : (tables_1_8)[i]? = some w) (hg : goodWord w = true) : w ∈ BIG := List.mem_filter.mpr ⟨lw_g8 h, hg⟩
