set_option maxRecDepth 20000 in
theorem am_fl_in_3 : ∀ w ∈ am_fl_3.map am_flw, w ∈ am_big := am_big_of (ps := [(0, 162), (3, 160), (3, 145), (0, 37)]) rfl rfl
theorem am_fl_in : ∀ f ∈ am_fl, am_flw f ∈ am_big := by
  intro f hf
  simp only [am_fl, List.mem_append] at hf
  rcases hf with (((hf | hf) | hf) | hf)
  · exact am_fl_in_0 _ (List.mem_map.mpr ⟨f, hf, rfl⟩)
  · exact am_fl_in_1 _ (List.mem_map.mpr ⟨f, hf, rfl⟩)
  · exact am_fl_in_2 _ (List.mem_map.mpr ⟨f, hf, rfl⟩)
  · exact am_fl_in_3 _ (List.mem_map.mpr ⟨f, hf, rfl⟩)
set_option maxRecDepth 20000 in
theorem am_ca_in_0 : ∀ w ∈ am_ca_0.map am_caw, w ∈ am_big := am_big_of (ps := [(1, 1), (1, 5), (1, 9), (1, 13), (1, 17), (4, 10), (4, 14), (4, 17), (1, 18), (1, 22), (1, 26), (1, 30), (1, 34), (1, 38), (1, 42), (1, 46), (1, 50), (1, 53), (1, 57), (1, 61), (1, 65), (1, 69), (1, 73), (1, 77), (1, 81), (1, 85), (1, 89), (1, 93), (1, 97), (1, 101), (1, 105), (1, 109), (1, 110), (1, 114), (1, 118), (1, 122), (1, 126), (1, 130), (4, 21), (4, 25)]) rfl rfl
