set_option maxRecDepth 20000 in
theorem am_inm_in_6 : ∀ w ∈ am_mds_6.map am_inw, w ∈ am_big := am_big_of (ps := [(5, 171), (5, 180), (5, 175), (5, 183), (5, 192), (5, 187), (5, 195), (5, 199), (5, 203), (5, 210)]) rfl rfl
theorem am_inm_in : ∀ f ∈ am_mds, am_inw f ∈ am_big := by
  intro f hf
  simp only [am_mds, List.mem_append] at hf
  rcases hf with ((((((hf | hf) | hf) | hf) | hf) | hf) | hf)
  · exact am_inm_in_0 _ (List.mem_map.mpr ⟨f, hf, rfl⟩)
  · exact am_inm_in_1 _ (List.mem_map.mpr ⟨f, hf, rfl⟩)
  · exact am_inm_in_2 _ (List.mem_map.mpr ⟨f, hf, rfl⟩)
  · exact am_inm_in_3 _ (List.mem_map.mpr ⟨f, hf, rfl⟩)
  · exact am_inm_in_4 _ (List.mem_map.mpr ⟨f, hf, rfl⟩)
  · exact am_inm_in_5 _ (List.mem_map.mpr ⟨f, hf, rfl⟩)
  · exact am_inm_in_6 _ (List.mem_map.mpr ⟨f, hf, rfl⟩)
