set_option maxRecDepth 20000 in
theorem am_se_in_6 : ∀ w ∈ (am_mds_6.filter am_virt).map am_sew, w ∈ am_big := am_big_of (ps := [(5, 172), (10, 8), (5, 176), (5, 184), (10, 9), (5, 188), (5, 196), (5, 200), (5, 204), (5, 211)]) rfl rfl
theorem am_se_in : ∀ f ∈ am_mds, am_virt f = true → am_sew f ∈ am_big := by
  intro f hf hv
  simp only [am_mds, List.mem_append] at hf
  rcases hf with ((((((hf | hf) | hf) | hf) | hf) | hf) | hf)
  · exact am_se_in_0 _ (List.mem_map.mpr ⟨f, List.mem_filter.mpr ⟨hf, hv⟩, rfl⟩)
  · exact am_se_in_1 _ (List.mem_map.mpr ⟨f, List.mem_filter.mpr ⟨hf, hv⟩, rfl⟩)
  · exact am_se_in_2 _ (List.mem_map.mpr ⟨f, List.mem_filter.mpr ⟨hf, hv⟩, rfl⟩)
  · exact am_se_in_3 _ (List.mem_map.mpr ⟨f, List.mem_filter.mpr ⟨hf, hv⟩, rfl⟩)
  · exact am_se_in_4 _ (List.mem_map.mpr ⟨f, List.mem_filter.mpr ⟨hf, hv⟩, rfl⟩)
  · exact am_se_in_5 _ (List.mem_map.mpr ⟨f, List.mem_filter.mpr ⟨hf, hv⟩, rfl⟩)
  · exact am_se_in_6 _ (List.mem_map.mpr ⟨f, List.mem_filter.mpr ⟨hf, hv⟩, rfl⟩)
