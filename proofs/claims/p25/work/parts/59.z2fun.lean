theorem zt_2 (f : Int → Int) (x0 x1 x2 x3 x4 x5 x6 x7 x8 x9 x10 x11 x12 x13 x14 x15 x16 x17 x18 x19 x20 x21 x22 x23 : Int) (h0 : 0 ≤ f (x0 + 0) ∧ f (x0 + 0) ≤ 3) (h1 : 0 ≤ f (x1 + 1) ∧ f (x1 + 1) ≤ 4) (h2 : 0 ≤ f (x2 + 2) ∧ f (x2 + 2) ≤ 5) (h3 : 0 ≤ f (x3 + 3) ∧ f (x3 + 3) ≤ 6) (h4 : 0 ≤ f (x4 + 4) ∧ f (x4 + 4) ≤ 7) (h5 : 0 ≤ f (x5 + 5) ∧ f (x5 + 5) ≤ 8) (h6 : 0 ≤ f (x6 + 6) ∧ f (x6 + 6) ≤ 9) (h7 : 0 ≤ f (x7 + 7) ∧ f (x7 + 7) ≤ 10) (h8 : 0 ≤ f (x8 + 8) ∧ f (x8 + 8) ≤ 11) (h9 : 0 ≤ f (x9 + 9) ∧ f (x9 + 9) ≤ 12) (h10 : 0 ≤ f (x10 + 10) ∧ f (x10 + 10) ≤ 13) (h11 : 0 ≤ f (x11 + 11) ∧ f (x11 + 11) ≤ 14) (h12 : 0 ≤ f (x12 + 12) ∧ f (x12 + 12) ≤ 15) (h13 : 0 ≤ f (x13 + 13) ∧ f (x13 + 13) ≤ 16) (h14 : 0 ≤ f (x14 + 14) ∧ f (x14 + 14) ≤ 17) (h15 : 0 ≤ f (x15 + 15) ∧ f (x15 + 15) ≤ 18) (h16 : 0 ≤ f (x16 + 16) ∧ f (x16 + 16) ≤ 19) (h17 : 0 ≤ f (x17 + 17) ∧ f (x17 + 17) ≤ 20) (h18 : 0 ≤ f (x18 + 18) ∧ f (x18 + 18) ≤ 21) (h19 : 0 ≤ f (x19 + 19) ∧ f (x19 + 19) ≤ 22) (h20 : 0 ≤ f (x20 + 20) ∧ f (x20 + 20) ≤ 23) (h21 : 0 ≤ f (x21 + 21) ∧ f (x21 + 21) ≤ 24) (h22 : 0 ≤ f (x22 + 22) ∧ f (x22 + 22) ≤ 25) (h23 : 0 ≤ f (x23 + 23) ∧ f (x23 + 23) ≤ 26) : f (x0 + 0) + f (x1 + 1) ≤ 7 := by
  have q0 : f (x0 + 0) ≤ 4 := by omega
  have q1 : f (x1 + 1) ≤ 5 := by omega
  have q2 : f (x2 + 2) ≤ 6 := by omega
  have q3 : f (x3 + 3) ≤ 7 := by omega
  have q4 : f (x4 + 4) ≤ 8 := by omega
  have q5 : f (x5 + 5) ≤ 9 := by omega
  have q6 : f (x6 + 6) ≤ 10 := by omega
  have q7 : f (x7 + 7) ≤ 11 := by omega
  have q8 : f (x8 + 8) ≤ 12 := by omega
  have q9 : f (x9 + 9) ≤ 13 := by omega
  omega
