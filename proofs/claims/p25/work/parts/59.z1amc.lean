theorem zt_1 (x0 x1 x2 x3 x4 x5 x6 x7 x8 x9 x10 x11 x12 x13 x14 x15 x16 x17 x18 x19 x20 x21 x22 x23 : Int) (h0 : 0 ≤ am_c (x0 + 0) ∧ am_c (x0 + 0) ≤ 3) (h1 : 0 ≤ am_c (x1 + 1) ∧ am_c (x1 + 1) ≤ 4) (h2 : 0 ≤ am_c (x2 + 2) ∧ am_c (x2 + 2) ≤ 5) (h3 : 0 ≤ am_c (x3 + 3) ∧ am_c (x3 + 3) ≤ 6) (h4 : 0 ≤ am_c (x4 + 4) ∧ am_c (x4 + 4) ≤ 7) (h5 : 0 ≤ am_c (x5 + 5) ∧ am_c (x5 + 5) ≤ 8) (h6 : 0 ≤ am_c (x6 + 6) ∧ am_c (x6 + 6) ≤ 9) (h7 : 0 ≤ am_c (x7 + 7) ∧ am_c (x7 + 7) ≤ 10) (h8 : 0 ≤ am_c (x8 + 8) ∧ am_c (x8 + 8) ≤ 11) (h9 : 0 ≤ am_c (x9 + 9) ∧ am_c (x9 + 9) ≤ 12) (h10 : 0 ≤ am_c (x10 + 10) ∧ am_c (x10 + 10) ≤ 13) (h11 : 0 ≤ am_c (x11 + 11) ∧ am_c (x11 + 11) ≤ 14) (h12 : 0 ≤ am_c (x12 + 12) ∧ am_c (x12 + 12) ≤ 15) (h13 : 0 ≤ am_c (x13 + 13) ∧ am_c (x13 + 13) ≤ 16) (h14 : 0 ≤ am_c (x14 + 14) ∧ am_c (x14 + 14) ≤ 17) (h15 : 0 ≤ am_c (x15 + 15) ∧ am_c (x15 + 15) ≤ 18) (h16 : 0 ≤ am_c (x16 + 16) ∧ am_c (x16 + 16) ≤ 19) (h17 : 0 ≤ am_c (x17 + 17) ∧ am_c (x17 + 17) ≤ 20) (h18 : 0 ≤ am_c (x18 + 18) ∧ am_c (x18 + 18) ≤ 21) (h19 : 0 ≤ am_c (x19 + 19) ∧ am_c (x19 + 19) ≤ 22) (h20 : 0 ≤ am_c (x20 + 20) ∧ am_c (x20 + 20) ≤ 23) (h21 : 0 ≤ am_c (x21 + 21) ∧ am_c (x21 + 21) ≤ 24) (h22 : 0 ≤ am_c (x22 + 22) ∧ am_c (x22 + 22) ≤ 25) (h23 : 0 ≤ am_c (x23 + 23) ∧ am_c (x23 + 23) ≤ 26) : am_c (x0 + 0) + am_c (x1 + 1) ≤ 7 := by
  have q0 : am_c (x0 + 0) ≤ 4 := by omega
  have q1 : am_c (x1 + 1) ≤ 5 := by omega
  have q2 : am_c (x2 + 2) ≤ 6 := by omega
  have q3 : am_c (x3 + 3) ≤ 7 := by omega
  have q4 : am_c (x4 + 4) ≤ 8 := by omega
  have q5 : am_c (x5 + 5) ≤ 9 := by omega
  have q6 : am_c (x6 + 6) ≤ 10 := by omega
  have q7 : am_c (x7 + 7) ≤ 11 := by omega
  have q8 : am_c (x8 + 8) ≤ 12 := by omega
  have q9 : am_c (x9 + 9) ≤ 13 := by omega
  omega
