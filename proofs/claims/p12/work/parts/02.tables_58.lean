theorem am_big_law : ∀ w ∈ am_big, w ∈ lw_tbl := by
  intro w hw
  have hw := (List.mem_filter.mp hw).1
  simp only [am_all, am_chunks, List.flatten_cons, List.flatten_nil, List.append_nil, List.mem_append] at hw
  simp only [lw_tbl, tables_1, k2_sels, lw_privs, List.map_append, List.mem_append]
  simp only [k2_sels] at hw
  rcases hw with hw | hw | hw | hw | hw | hw | hw | hw | hw | hw | hw
  all_goals simp only [hw, true_or, or_true]
