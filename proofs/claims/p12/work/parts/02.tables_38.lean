set_option maxRecDepth 20000 in
theorem am_se_in_0 : ∀ w ∈ (am_mds_0.filter am_virt).map am_sew, w ∈ am_big := am_big_of (ps := [(1, 83), (1, 24), (2, 51), (1, 28), (1, 32), (1, 160), (1, 164), (1, 95), (2, 66), (1, 99), (1, 124), (1, 120), (2, 91), (3, 112), (1, 235), (3, 51), (3, 60), (3, 99), (2, 104), (1, 202), (1, 206), (1, 223), (1, 211), (1, 215), (1, 219), (2, 24), (2, 3), (2, 7), (1, 239), (2, 16), (2, 183), (1, 91), (1, 87), (1, 112), (1, 103), (1, 107), (1, 116), (2, 20), (1, 186)]) rfl (by decide +kernel)
set_option maxRecDepth 20000 in
theorem am_se_in_1 : ∀ w ∈ (am_mds_1.filter am_virt).map am_sew, w ∈ am_big := am_big_of (ps := [(1, 11), (1, 15), (1, 48), (1, 128), (3, 93), (1, 172), (1, 176), (2, 196), (1, 132), (1, 36), (1, 40), (1, 44), (1, 55), (1, 71), (1, 59), (1, 63), (1, 67), (1, 75), (1, 79), (1, 3), (1, 20), (1, 136), (1, 142), (1, 146), (1, 150), (1, 168), (1, 181), (1, 190), (1, 231), (2, 12), (2, 33), (2, 37), (2, 58), (2, 75), (2, 79), (2, 87), (2, 95), (2, 115), (2, 128)]) rfl (by decide +kernel)
set_option maxRecDepth 20000 in
theorem am_se_in_2 : ∀ w ∈ (am_mds_2.filter am_virt).map am_sew, w ∈ am_big := am_big_of (ps := [(2, 136), (2, 140), (2, 149), (2, 153), (2, 162), (2, 167), (2, 171), (2, 175), (2, 179), (2, 192), (2, 200), (2, 204), (2, 208), (2, 216), (2, 224), (2, 233), (2, 237), (3, 6), (3, 11), (3, 19), (3, 27), (3, 43), (3, 47), (3, 56), (3, 65), (3, 69), (3, 73), (3, 77), (3, 85), (3, 89), (3, 104), (3, 108), (6, 0), (6, 8), (6, 1), (6, 2)]) rfl (by decide +kernel)
set_option maxRecDepth 20000 in
theorem am_se_in_3 : ∀ w ∈ (am_mds_3.filter am_virt).map am_sew, w ∈ am_big := am_big_of (ps := [(6, 3), (6, 14), (6, 4), (6, 5), (6, 6), (6, 9), (6, 7), (6, 10), (6, 11), (6, 12), (6, 13), (6, 15), (7, 0), (7, 1), (7, 2), (7, 3), (7, 4), (7, 5), (7, 6), (7, 7), (9, 11), (8, 12), (8, 2), (9, 4), (4, 12), (7, 9), (7, 11), (7, 12), (7, 10), (7, 8), (8, 1), (8, 0), (4, 23), (7, 14), (7, 15), (7, 13), (4, 108)]) rfl (by decide +kernel)
set_option maxRecDepth 20000 in
theorem am_se_in_4 : ∀ w ∈ (am_mds_4.filter am_virt).map am_sew, w ∈ am_big := am_big_of (ps := [(4, 112), (8, 7), (8, 6), (8, 5), (8, 8), (8, 4), (9, 0), (8, 15), (8, 14), (8, 9), (8, 3), (4, 116), (4, 120), (4, 124), (4, 128), (4, 132), (8, 11), (8, 10), (4, 140), (4, 144), (8, 13), (9, 2), (4, 152), (9, 1), (4, 183), (9, 3), (4, 191), (4, 203), (9, 6), (9, 5), (4, 207), (9, 7), (4, 226), (4, 234), (9, 8), (4, 238)]) rfl (by decide +kernel)
set_option maxRecDepth 20000 in
theorem am_se_in_5 : ∀ w ∈ (am_mds_5.filter am_virt).map am_sew, w ∈ am_big := am_big_of (ps := [(9, 9), (5, 6), (9, 10), (5, 14), (5, 22), (9, 12), (5, 31), (5, 39), (9, 13), (5, 43), (5, 51), (5, 55), (5, 59), (5, 63), (9, 14), (5, 67), (5, 75), (9, 15), (5, 79), (5, 91), (10, 0), (5, 95), (5, 104), (10, 1), (5, 108), (10, 2), (5, 116), (10, 3), (10, 4), (5, 124), (5, 136), (5, 140), (5, 144), (10, 7), (10, 6), (10, 5), (5, 148), (5, 164), (5, 168)]) rfl (by decide +kernel)
set_option maxRecDepth 20000 in
theorem am_se_in_6 : ∀ w ∈ (am_mds_6.filter am_virt).map am_sew, w ∈ am_big := am_big_of (ps := [(5, 172), (10, 8), (5, 176), (5, 184), (10, 9), (5, 188), (5, 196), (5, 200), (5, 204), (5, 211)]) rfl (by decide +kernel)
theorem am_se_in : ∀ f ∈ am_mds, am_virt f = true → am_sew f ∈ am_big := by
  intro f hf hv
  simp only [am_mds, List.mem_append] at hf
  rcases hf with ((((((hf | hf) | hf) | hf) | hf) | hf) | hf)
  · exact am_se_in_0 _ (List.mem_map.mpr ⟨f, List.mem_filter.mpr ⟨hf, hv⟩, rfl⟩)
  · exact am_se_in_1 _ (List.mem_map.mpr ⟨f, List.mem_filter.mpr ⟨hf, hv⟩, rfl⟩)
  · exact am_se_in_2 _ (List.mem_map.mpr ⟨f, List.mem_filter.mpr ⟨hf, hv⟩, rfl⟩)
  · exact am_se_in_3 _ (List.mem_map.mpr ⟨f, List.mem_filter.mpr ⟨hf, hv⟩, rfl⟩)
  · exact am_se_in_4 _ (List.mem_map.mpr ⟨f, List.mem_filter.mpr ⟨hf, hv⟩, rfl⟩)
  · exact am_se_in_5 _ (List.mem_map.mpr ⟨f, List.mem_filter.mpr ⟨hf, hv⟩, rfl⟩)
  · exact am_se_in_6 _ (List.mem_map.mpr ⟨f, List.mem_filter.mpr ⟨hf, hv⟩, rfl⟩)
