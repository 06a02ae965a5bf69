theorem am_big_good : am_big.all goodWord = true := List.all_eq_true.mpr (fun _ h => (List.mem_filter.mp h).2)
