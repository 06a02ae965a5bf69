set_option maxRecDepth 20000 in
theorem am_fl_in_0 : ∀ w ∈ am_fl_0.map am_flw, w ∈ am_big := am_big_of (ps := [(0, 192), (0, 193), (0, 194), (0, 195), (0, 196), (0, 197), (0, 198), (0, 199), (0, 200), (0, 201), (0, 202), (0, 203), (0, 204), (0, 205), (0, 206), (0, 207), (0, 24), (0, 27), (0, 32), (0, 35), (0, 38), (0, 43), (0, 46), (0, 49), (0, 52), (0, 56), (0, 60), (0, 95), (0, 97), (0, 98), (0, 99), (0, 100), (0, 102), (0, 143), (0, 145), (0, 132), (0, 131), (0, 161), (0, 163), (0, 177)]) rfl (by decide +kernel)
set_option maxRecDepth 20000 in
theorem am_fl_in_1 : ∀ w ∈ am_fl_1.map am_flw, w ∈ am_big := am_big_of (ps := [(0, 178), (0, 179), (0, 180), (3, 120), (3, 121), (3, 122), (3, 123), (3, 124), (3, 125), (3, 126), (3, 127), (3, 128), (3, 129), (3, 130), (3, 133), (3, 137), (3, 138), (3, 139), (3, 140), (3, 144), (3, 148), (3, 149), (3, 150), (3, 151), (3, 152), (3, 154), (3, 159), (3, 161), (0, 144), (3, 141), (0, 133), (0, 42), (0, 30), (0, 25), (0, 45), (0, 48), (0, 51), (0, 55), (0, 59), (0, 63)]) rfl (by decide +kernel)
set_option maxRecDepth 20000 in
theorem am_fl_in_2 : ∀ w ∈ am_fl_2.map am_flw, w ∈ am_big := am_big_of (ps := [(0, 33), (0, 36), (0, 64), (0, 39), (0, 31), (3, 142), (3, 143), (3, 153), (3, 147), (3, 146), (3, 135), (3, 136), (3, 131), (3, 132), (3, 134), (0, 44), (0, 47), (0, 50), (0, 54), (0, 58), (0, 62), (0, 41), (0, 29), (0, 57), (0, 61), (0, 28), (0, 53), (0, 96), (3, 155), (3, 156), (3, 158), (3, 157), (0, 34), (0, 134), (0, 40), (0, 26), (0, 135), (3, 162), (0, 181), (0, 101)]) rfl (by decide +kernel)
set_option maxRecDepth 20000 in
theorem am_fl_in_3 : ∀ w ∈ am_fl_3.map am_flw, w ∈ am_big := am_big_of (ps := [(0, 162), (3, 160), (3, 145), (0, 37)]) rfl (by decide +kernel)
theorem am_fl_in : ∀ f ∈ am_fl, am_flw f ∈ am_big := by
  intro f hf
  simp only [am_fl, List.mem_append] at hf
  rcases hf with (((hf | hf) | hf) | hf)
  · exact am_fl_in_0 _ (List.mem_map.mpr ⟨f, hf, rfl⟩)
  · exact am_fl_in_1 _ (List.mem_map.mpr ⟨f, hf, rfl⟩)
  · exact am_fl_in_2 _ (List.mem_map.mpr ⟨f, hf, rfl⟩)
  · exact am_fl_in_3 _ (List.mem_map.mpr ⟨f, hf, rfl⟩)
