set_option maxRecDepth 20000 in
theorem am_ca_in_6 : ∀ w ∈ am_ca_6.map am_caw, w ∈ am_big := am_big_of (ps := [(5, 134), (3, 45), (3, 49), (3, 53), (5, 138), (3, 54), (3, 58), (3, 62), (5, 142), (3, 63), (5, 146), (5, 150), (5, 154), (5, 158), (3, 67), (5, 162), (3, 71), (5, 166), (3, 75), (3, 79), (5, 174), (5, 178), (3, 83), (5, 170), (3, 87), (3, 91), (3, 96), (3, 97), (3, 101), (4, 106), (3, 102), (4, 110), (3, 106), (3, 110), (5, 209)]) rfl rfl
theorem am_ca_in : ∀ f ∈ am_ca, am_caw f ∈ am_big := by
  intro f hf
  simp only [am_ca, List.mem_append] at hf
  rcases hf with ((((((hf | hf) | hf) | hf) | hf) | hf) | hf)
  · exact am_ca_in_0 _ (List.mem_map.mpr ⟨f, hf, rfl⟩)
  · exact am_ca_in_1 _ (List.mem_map.mpr ⟨f, hf, rfl⟩)
  · exact am_ca_in_2 _ (List.mem_map.mpr ⟨f, hf, rfl⟩)
  · exact am_ca_in_3 _ (List.mem_map.mpr ⟨f, hf, rfl⟩)
  · exact am_ca_in_4 _ (List.mem_map.mpr ⟨f, hf, rfl⟩)
  · exact am_ca_in_5 _ (List.mem_map.mpr ⟨f, hf, rfl⟩)
  · exact am_ca_in_6 _ (List.mem_map.mpr ⟨f, hf, rfl⟩)
