set_option maxRecDepth 20000 in
theorem am_cd_in_6 : ∀ w ∈ am_mds_6.map am_cdw, w ∈ am_big := am_big_of (ps := [(5, 173), (5, 181), (5, 177), (5, 185), (5, 193), (5, 189), (5, 197), (5, 201), (5, 205), (5, 212)]) rfl rfl
theorem am_cd_in : ∀ f ∈ am_mds, am_cdw f ∈ am_big := by
  intro f hf
  simp only [am_mds, List.mem_append] at hf
  rcases hf with ((((((hf | hf) | hf) | hf) | hf) | hf) | hf)
  · exact am_cd_in_0 _ (List.mem_map.mpr ⟨f, hf, rfl⟩)
  · exact am_cd_in_1 _ (List.mem_map.mpr ⟨f, hf, rfl⟩)
  · exact am_cd_in_2 _ (List.mem_map.mpr ⟨f, hf, rfl⟩)
  · exact am_cd_in_3 _ (List.mem_map.mpr ⟨f, hf, rfl⟩)
  · exact am_cd_in_4 _ (List.mem_map.mpr ⟨f, hf, rfl⟩)
  · exact am_cd_in_5 _ (List.mem_map.mpr ⟨f, hf, rfl⟩)
  · exact am_cd_in_6 _ (List.mem_map.mpr ⟨f, hf, rfl⟩)
