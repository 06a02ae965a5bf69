/-! to hold back or not -/
theorem fp_ad2 {a b c d : Int} (h1 : a = b) (h2 : c = d) : a + c = b + d := by rw [h1, h2]
theorem am_qm {Q : Option am_V → am_N → Prop} {r : Option am_V} {μ ν : am_N} (k : Q r ν) (h : μ = ν) : Q r μ := by rw [h]; exact k
theorem am_m1_bn {rule yard f n : Int} {s : Nat → Int} (h : ∀ b : Nat, (b : Int) < n → 0 ≤ s b ∧ s b ≤ 99) : ∀ b : Nat, (b : Int) < n → 0 ≤ am_m1 rule yard f s b ∧ am_m1 rule yard f s b ≤ 99 := fun b hb => by
  unfold am_m1
  split
  · unfold am_pt
    split
    · exact am_hd_b _
    · exact h b hb
  · exact h b hb
theorem am_m2_bn {rule yard g n : Int} {s : Nat → Int} (h : ∀ b : Nat, (b : Int) < n → 0 ≤ s b ∧ s b ≤ 99) : ∀ b : Nat, (b : Int) < n → 0 ≤ am_m2 rule yard g s b ∧ am_m2 rule yard g s b ≤ 99 := fun b hb => by
  unfold am_m2
  split
  · unfold am_pt
    split
    · exact am_hd_b _
    · exact h b hb
  · exact h b hb
theorem am_m3_bn {rule i f n : Int} {s : Nat → Int} (h : ∀ b : Nat, (b : Int) < n → 0 ≤ s b ∧ s b ≤ 99) : ∀ b : Nat, (b : Int) < n → 0 ≤ am_m3 rule i f s b ∧ am_m3 rule i f s b ≤ 99 := fun b hb => by
  unfold am_m3
  split
  · exact am_hd_b _
  · exact h b hb
/-- the first's, the last's START of two, mended -/
def fp_hA (r y v : Int) : Int := if r = 1 ∨ r = 3 ∨ r = 4 then am_hd (v - y) else v
def fp_hB (r y v : Int) : Int := if r = 4 then am_hd (v + 1) else if r = 2 ∨ r = 3 then am_hd (v + y) else v
theorem fp_hA_b {r y v : Int} (h : 0 ≤ v ∧ v ≤ 99) : 0 ≤ fp_hA r y v ∧ fp_hA r y v ≤ 99 := by
  unfold fp_hA
  split
  · exact am_hd_b _
  · exact h
theorem fp_hB_b {r y v : Int} (h : 0 ≤ v ∧ v ≤ 99) : 0 ≤ fp_hB r y v ∧ fp_hB r y v ≤ 99 := by
  unfold fp_hB
  split
  · exact am_hd_b _
  · split
    · exact am_hd_b _
    · exact h
theorem fp_mn01 {r : Int} (h0 : 0 ≤ r) (h1 : r ≤ 4) (y : Int) (s : Nat → Int) : am_mn r y 2 0 1 s 0 = fp_hA r y (s 0) ∧ am_mn r y 2 0 1 s 1 = fp_hB r y (s 1) := by
  rcases (show r = 0 ∨ r = 1 ∨ r = 2 ∨ r = 3 ∨ r = 4 by omega) with rfl | rfl | rfl | rfl | rfl <;> exact ⟨rfl, rfl⟩
theorem fp_mn10 {r : Int} (h0 : 0 ≤ r) (h1 : r ≤ 4) (y : Int) (s : Nat → Int) : am_mn r y 2 1 0 s 1 = fp_hA r y (s 1) ∧ am_mn r y 2 1 0 s 0 = fp_hB r y (s 0) := by
  rcases (show r = 0 ∨ r = 1 ∨ r = 2 ∨ r = 3 ∨ r = 4 by omega) with rfl | rfl | rfl | rfl | rfl <;> exact ⟨rfl, rfl⟩
/-- the field behind the race: f was first, l the other -/
def fp_hg0 (F : am_N) (f l : Nat) : am_N := fun a b => if a = 5 then (if b = f then fp_hA (F 0 2) (F 0 3) (F 5 f) else if b = l then fp_hB (F 0 2) (F 0 3) (F 5 l) else F 5 b) else if a = 0 ∧ b = 1 then F 0 1 + 1 else F a b
def fp_hg (F : am_N) (f l : Nat) : am_N := fp_ct (fp_hg0 F f l)
theorem fw_hg {F : am_N} {f l : Nat} (h : fp_fw 999 F) : fp_fw 1000 (fp_hg F f l) := by
  refine fw_ct ?_
  obtain ⟨h0, h1, h2, h3, h4, h5, h6⟩ := h
  have e : ∀ a b : Nat, a ≠ 5 → ¬(a = 0 ∧ b = 1) → fp_hg0 F f l a b = F a b := fun a b q1 q2 => by unfold fp_hg0; rw [if_neg q1, if_neg q2]
  have e1 : fp_hg0 F f l 0 1 = F 0 1 + 1 := rfl
  unfold fp_fw
  rw [e 0 0 (by decide) (by decide), e 0 2 (by decide) (by decide), e 0 3 (by decide) (by decide), e 0 4 (by decide) (by decide), e1]
  refine ⟨h0, by omega, h2, h3, h4, fun i hi => ?_, fun i hi => ?_⟩
  · unfold fp_hg0
    rw [if_pos rfl]
    by_cases d : i = f
    · rw [if_pos d, ← d]; exact fp_hA_b (h5 i hi)
    · by_cases d2 : i = l
      · rw [if_neg d, if_pos d2, ← d2]; exact fp_hB_b (h5 i hi)
      · rw [if_neg d, if_neg d2]; exact h5 i hi
  · rw [e 1 i (by decide) (fun z => absurd z.1 (by decide)), e 2 i (by decide) (fun z => absurd z.1 (by decide)), e 3 i (by decide) (fun z => absurd z.1 (by decide)), e 4 i (by decide) (fun z => absurd z.1 (by decide))]
    exact h6 i hi
/-- the same as a memory of the class's -/
def fp_hG (ν : am_N) (f l : Nat) : am_N := fun a b => if a = 6 then (if b = f then fp_hA (ν 1 2) (ν 1 3) (ν 6 f) else if b = l then fp_hB (ν 1 2) (ν 1 3) (ν 6 l) else ν 6 b) else if a = 1 ∧ b = 1 then ν 1 1 + 1 else ν a b
theorem fv_hg {ν : am_N} {f l : Nat} (hf : f < 4) (hl : l < 4) : fv (fp_hG ν f l) 1 = fp_hg (fv ν 1) f l := by
  refine fp_ct_e (fun b hb => ?_) (fun a b q1 q2 hb => ?_)
  · show fp_hG ν f l 1 b = fp_hg0 (fv ν 1) f l 0 b
    unfold fp_hG fp_hg0
    rw [if_neg (show ¬ ((1 : Nat) = 6) by decide), if_neg (show ¬ ((0 : Nat) = 5) by decide)]
    by_cases d : b = 1
    · rw [if_pos (show (1 : Nat) = 1 ∧ b = 1 from ⟨rfl, d⟩), if_pos (show (0 : Nat) = 0 ∧ b = 1 from ⟨rfl, d⟩), fv_0 (by decide)]
    · rw [if_neg (show ¬ ((1 : Nat) = 1 ∧ b = 1) from fun z => d z.2), if_neg (show ¬ ((0 : Nat) = 0 ∧ b = 1) from fun z => d z.2), fv_0 hb]
  · show fp_hG ν f l (1 + a) b = fp_hg0 (fv ν 1) f l a b
    unfold fp_hG fp_hg0
    by_cases d5 : a = 5
    · subst d5
      rw [if_pos (by decide), if_pos rfl, fv_0 (by decide), fv_0 (by decide), fv_a (by decide) (by decide) hf, fv_a (by decide) (by decide) hl, fv_a (by decide) (by decide) hb]
    · rw [if_neg (by omega), if_neg (by omega), if_neg d5, if_neg (by omega), fv_a q1 q2 hb]
theorem fp_hr0 {ν μ1 μ7 : am_N} {A B : Nat} (hr : 0 ≤ ν 1 2 ∧ ν 1 2 ≤ 4) (AB : A ≠ B) (e1 : ∀ b : Nat, b < 4 → μ1 15 b = ν 1 b) (r0 : ∀ a : Nat, 0 < a → a < 7 → μ1 (15 + a) 0 = ν (1 + a) A) (r1 : ∀ a : Nat, 0 < a → a < 7 → μ1 (15 + a) 1 = ν (1 + a) B) (n1 : μ1 15 4 = 2) (g : ∀ a b, 15 ≤ a → a < 22 → a ≠ 20 → ¬(a = 15 ∧ b = 1) → μ7 a b = μ1 a b) (g1 : μ7 15 1 = μ1 15 1 + 1) (h20 : μ7 20 = am_mn (μ1 15 2) (μ1 15 3) (μ1 15 4) 0 1 (μ1 20)) : (∀ b : Nat, b < 4 → μ7 15 b = fp_hG ν A B 1 b) ∧ (∀ a : Nat, 0 < a → a < 7 → μ7 (15 + a) 0 = fp_hG ν A B (1 + a) A) ∧ (∀ a : Nat, 0 < a → a < 7 → μ7 (15 + a) 1 = fp_hG ν A B (1 + a) B) ∧ μ7 15 4 = 2 := by
  have m := fp_mn01 hr.1 hr.2 (ν 1 3) (μ1 20)
  have hG : ∀ a b, a ≠ 6 → ¬(a = 1 ∧ b = 1) → fp_hG ν A B a b = ν a b := fun a b q1 q2 => by unfold fp_hG; rw [if_neg q1, if_neg q2]
  rw [e1 2 (by decide), e1 3 (by decide), n1] at h20
  refine ⟨fun b hb => ?_, fun a q1 q2 => ?_, fun a q1 q2 => ?_, ?_⟩
  · by_cases d : b = 1
    · subst d
      rw [g1, e1 1 (by decide)]
      rfl
    · rw [g 15 b (by decide) (by decide) (by decide) (fun z => d z.2), e1 b hb, hG 1 b (by decide) (fun z => d z.2)]
  ·
    by_cases d : a = 5
    · subst d
      show μ7 20 0 = _
      rw [h20, m.1, show μ1 20 0 = ν 6 A from r0 5 (by decide) (by decide)]
      unfold fp_hG
      rw [if_pos (by decide), if_pos rfl]
    · rw [g (15 + a) 0 (by omega) (by omega) (by omega) (by omega), r0 a q1 q2, hG (1 + a) A (by omega) (by omega)]
  ·
    by_cases d : a = 5
    · subst d
      show μ7 20 1 = _
      rw [h20, m.2, show μ1 20 1 = ν 6 B from r1 5 (by decide) (by decide)]
      unfold fp_hG
      rw [if_pos (by decide), if_neg (fun z => AB z.symm), if_pos rfl]
    · rw [g (15 + a) 1 (by omega) (by omega) (by omega) (by omega), r1 a q1 q2, hG (1 + a) B (by omega) (by omega)]
  · rw [g 15 4 (by decide) (by decide) (by decide) (fun z => absurd z.2 (by decide)), n1]
theorem fp_hr1 {ν μ1 μ7 : am_N} {A B : Nat} (hr : 0 ≤ ν 1 2 ∧ ν 1 2 ≤ 4) (AB : A ≠ B) (e1 : ∀ b : Nat, b < 4 → μ1 15 b = ν 1 b) (r0 : ∀ a : Nat, 0 < a → a < 7 → μ1 (15 + a) 0 = ν (1 + a) A) (r1 : ∀ a : Nat, 0 < a → a < 7 → μ1 (15 + a) 1 = ν (1 + a) B) (n1 : μ1 15 4 = 2) (g : ∀ a b, 15 ≤ a → a < 22 → a ≠ 20 → ¬(a = 15 ∧ b = 1) → μ7 a b = μ1 a b) (g1 : μ7 15 1 = μ1 15 1 + 1) (h20 : μ7 20 = am_mn (μ1 15 2) (μ1 15 3) (μ1 15 4) 1 0 (μ1 20)) : (∀ b : Nat, b < 4 → μ7 15 b = fp_hG ν B A 1 b) ∧ (∀ a : Nat, 0 < a → a < 7 → μ7 (15 + a) 0 = fp_hG ν B A (1 + a) A) ∧ (∀ a : Nat, 0 < a → a < 7 → μ7 (15 + a) 1 = fp_hG ν B A (1 + a) B) ∧ μ7 15 4 = 2 := by
  have m := fp_mn10 hr.1 hr.2 (ν 1 3) (μ1 20)
  have hG : ∀ a b, a ≠ 6 → ¬(a = 1 ∧ b = 1) → fp_hG ν B A a b = ν a b := fun a b q1 q2 => by unfold fp_hG; rw [if_neg q1, if_neg q2]
  rw [e1 2 (by decide), e1 3 (by decide), n1] at h20
  refine ⟨fun b hb => ?_, fun a q1 q2 => ?_, fun a q1 q2 => ?_, ?_⟩
  · by_cases d : b = 1
    · subst d
      rw [g1, e1 1 (by decide)]
      rfl
    · rw [g 15 b (by decide) (by decide) (by decide) (fun z => d z.2), e1 b hb, hG 1 b (by decide) (fun z => d z.2)]
  ·
    by_cases d : a = 5
    · subst d
      show μ7 20 0 = _
      rw [h20, m.2, show μ1 20 0 = ν 6 A from r0 5 (by decide) (by decide)]
      unfold fp_hG
      rw [if_pos (by decide), if_neg (fun z => AB z), if_pos rfl]
    · rw [g (15 + a) 0 (by omega) (by omega) (by omega) (by omega), r0 a q1 q2, hG (1 + a) A (by omega) (by omega)]
  ·
    by_cases d : a = 5
    · subst d
      show μ7 20 1 = _
      rw [h20, m.1, show μ1 20 1 = ν 6 B from r1 5 (by decide) (by decide)]
      unfold fp_hG
      rw [if_pos (by decide), if_pos rfl]
    · rw [g (15 + a) 1 (by omega) (by omega) (by omega) (by omega), r1 a q1 q2, hG (1 + a) B (by omega) (by omega)]
  · rw [g 15 4 (by decide) (by decide) (by decide) (fun z => absurd z.2 (by decide)), n1]
theorem fp_o2 {μ : am_N} {t : Nat → Int} (h : am_isord μ 34 t 2) : (¬ t 1 < t 0 → μ 34 0 = 0 ∧ μ 34 1 = 1) ∧ (t 1 < t 0 → μ 34 0 = 1 ∧ μ 34 1 = 0) := by
  have a0 := h 0 (by decide)
  have a1 := h 1 (by decide)
  have c0 : am_cnt t 0 2 = if t 1 < t 0 then 1 else 0 := by
    show (0 : Int) + (if t 0 < t 0 ∨ (t 0 = t 0 ∧ 0 < 0) then 1 else 0) + (if t 1 < t 0 ∨ (t 1 = t 0 ∧ 1 < 0) then 1 else 0) = _
    (repeat' split) <;> omega
  have c1 : am_cnt t 1 2 = if t 1 < t 0 then 0 else 1 := by
    show (0 : Int) + (if t 0 < t 1 ∨ (t 0 = t 1 ∧ 0 < 1) then 1 else 0) + (if t 1 < t 1 ∨ (t 1 = t 1 ∧ 1 < 1) then 1 else 0) = _
    (repeat' split) <;> omega
  rw [show (2 : Int).toNat = 2 from rfl] at a0 a1
  rw [c0] at a0
  rw [c1] at a1
  refine ⟨fun d => ?_, fun d => ?_⟩
  · rw [if_neg d] at a0 a1
    exact ⟨a0, a1⟩
  · rw [if_pos d] at a0 a1
    exact ⟨a1, a0⟩
/-- what each takes -/
def fp_hx (F : am_N) (i : Nat) (q : Int) : Int := fp_tf F i + (if 2 ≤ q then F 2 i else 0)
def fp_hy (F : am_N) (j : Nat) (q : Int) : Int := fp_tf F j + (if q % 2 = 1 then F 2 j else 0)
def fp_h1 (F : am_N) (i j : Nat) (x y : Int) : Int := if x < y ∨ (x = y ∧ i < j) then fp_ah (fp_hg F i j) i j else fp_ah (fp_hg F j i) i j
def fp_hov (F : am_N) (i j : Nat) (x y : Int) : Int := fp_aw (if i < j then 0 else 1) x (F 4 i) y (F 4 j) + fp_h1 F i j x y
def fp_how (F : am_N) (i j : Nat) (q : Int) : Int := fp_hov F i j (fp_hx F i q) (fp_hy F j q)
theorem fp_how_b (F : am_N) (i j : Nat) (q : Int) : 0 ≤ fp_how F i j q ∧ fp_how F i j q ≤ 32 := by
  have a := fp_aw_b (if i < j then 0 else 1) (fp_hx F i q) (F 4 i) (fp_hy F j q) (F 4 j)
  have b : 0 ≤ fp_h1 F i j (fp_hx F i q) (fp_hy F j q) ∧ fp_h1 F i j (fp_hx F i q) (fp_hy F j q) ≤ 16 := by
    unfold fp_h1
    split
    · exact fp_ah_b _ _ _
    · exact fp_ah_b _ _ _
  unfold fp_how fp_hov
  omega
theorem fp_x4F : ∀ q : Fin 4, (0 ≤ am_xor ((q : Nat) : Int) 1 ∧ am_xor ((q : Nat) : Int) 1 ≤ 3) ∧ (0 ≤ am_xor ((q : Nat) : Int) 2 ∧ am_xor ((q : Nat) : Int) 2 ≤ 3) := by decide +kernel
theorem fp_x4 {q : Int} (q0 : 0 ≤ q) (q1 : q ≤ 3) : (0 ≤ am_xor q 1 ∧ am_xor q 1 ≤ 3) ∧ (0 ≤ am_xor q 2 ∧ am_xor q 2 ≤ 3) := by
  have h := fp_x4F ⟨q.toNat, by omega⟩
  simp only [Int.toNat_of_nonneg q0] at h
  exact h
/-- the first pair of both by which neither has more by doing otherwise -/
def fp_hs (F : am_N) (i j : Nat) : Nat → Int → Int
  | 0, _ => -9
  | m + 1, q => if fp_how F i j (am_xor q 2) ≤ fp_how F i j q ∧ fp_how F i j q ≤ fp_how F i j (am_xor q 1) then q else fp_hs F i j m (q + 1)
theorem fp_hs_s {F : am_N} {i j : Nat} {q : Int} (q0 : 0 ≤ q) (q1 : q ≤ 3) : fp_hs F i j (4 - q).toNat q = if fp_how F i j (am_xor q 2) ≤ fp_how F i j q ∧ fp_how F i j q ≤ fp_how F i j (am_xor q 1) then q else fp_hs F i j (4 - (q + 1)).toNat (q + 1) := by
  rw [show (4 - q).toNat = (4 - (q + 1)).toNat + 1 by omega]
  rfl
def fp_hor (F : am_N) (i j : Int) : Int := if ¬((0 ≤ i ∧ i < F 0 4) ∧ (0 ≤ j ∧ j < F 0 4) ∧ i ≠ j) then -1 else fp_hs F i.toNat j.toNat 4 0
def fp_HW (ν μ : am_N) : Prop := (∀ a b, ¬(15 ≤ a ∧ a < 22) → ¬(30 ≤ a ∧ a ≤ 34) → ¬(a = 29 ∧ b = 0) → μ a b = ν a b) ∧ sx_3 μ 34 ∧ (0 ≤ μ 15 4 ∧ μ 15 4 ≤ 4) ∧ (0 ≤ μ 29 0 ∧ μ 29 0 ≤ 4)
theorem x_more_15 {l : Launch} {ν : am_N} {Q : Option am_V → am_N → Prop} (i d : Int) (hi0 : 0 ≤ i) (hi1 : i < ν 15 4) (hn : ν 15 4 ≤ 4) (hs0 : 0 ≤ ν 20 i.toNat) (hs1 : ν 20 i.toNat ≤ 99) (d0 : -1000 ≤ d) (d1 : d ≤ 1000) (k : Q none (am_up ν 20 i.toNat (am_hd (ν 20 i.toNat + d)))) : am_Does l 11 [.inr (.inr 15), .inl i, .inl d] ν Q := by
  refine am_Does_of (Nat.le_of_ble_eq_true rfl) (Nat.le_of_ble_eq_true rfl) (Nat.le_of_ble_eq_true rfl) ?_
  have ci : am_c i = i := am_cR (by omega) (by omega)
  have cn : am_c (ν 15 4) = ν 15 4 := am_cR (by omega) (by omega)
  have c99 : am_c 99 = 99 := rfl
  have ei : (am_c i).toNat = i.toNat := by rw [ci]
  have cv : am_c (ν 20 i.toNat + d) = ν 20 i.toNat + d := am_cR (by omega) (by omega)
  refine am_go (ct := fun _ => false) am_oX0_more 300 ?_
  conv => whnf
  repeat' first
    | (refine (?_ : am_wp _ _ _ _ _ _ _ _ _ _ _ _); conv => whnf)
    | (refine (?_ : am_sw _ _ _ _); conv => whnf)
    | refine And.intro trivial ?_
    | exact trivial
    | refine am_qu k ?_ ?_
    | refine And.intro (fun h => absurd h (by decide)) (fun _ => ?_)
    | refine And.intro (fun _ => ?_) (fun h => absurd (by decide) h)
    | refine And.intro (fun _ => ?_) (fun _ => ?_)
    | refine And.intro ?_ ?_
  all_goals (first | decide | assumption | omega | (simp only [ei, ci, cn] at *; omega) | (unfold am_hd; first | (rw [if_pos (by simp only [ci, cv, c99] at *; omega)]) | (rw [if_neg (by simp only [ci, cv, c99] at *; omega), if_pos (by simp only [ci, cv, c99] at *; omega)]) | (rw [if_neg (by simp only [ci, cv, c99] at *; omega), if_neg (by simp only [ci, cv, c99] at *; omega), ei])) | (simp only [ei] at *; (unfold am_hd; first | (rw [if_pos (by simp only [ci, cv, c99] at *; omega)]) | (rw [if_neg (by simp only [ci, cv, c99] at *; omega), if_pos (by simp only [ci, cv, c99] at *; omega)]) | (rw [if_neg (by simp only [ci, cv, c99] at *; omega), if_neg (by simp only [ci, cv, c99] at *; omega), ei]))) | (trace_state; fail))
theorem x_mend_15 {l : Launch} {ν : am_N} {Q : Option am_V → am_N → Prop} (F G : Int) (hF0 : 0 ≤ F) (hF1 : F < ν 15 4) (hG0 : 0 ≤ G) (hG1 : G < ν 15 4) (hn : ν 15 4 ≤ 4) (hr : 0 ≤ ν 15 2 ∧ ν 15 2 ≤ 4) (hy : 1 ≤ ν 15 3 ∧ ν 15 3 ≤ 9) (hs : ∀ b : Nat, (b : Int) < ν 15 4 → 0 ≤ ν 20 b ∧ ν 20 b ≤ 99) (k : ∀ μ' : am_N, (∀ a b, a ≠ 20 → μ' a b = ν a b) → μ' 20 = am_mn (ν 15 2) (ν 15 3) (ν 15 4) F G (ν 20) → Q none μ') : am_Does l 12 [.inr (.inr 15), .inl F, .inl G] ν Q := by
  refine am_Does_of (Nat.le_of_ble_eq_true rfl) (Nat.le_of_ble_eq_true rfl) (Nat.le_of_ble_eq_true rfl) ?_
  have cF : am_c F = F := am_cR (by omega) (by omega)
  have cr : am_c (ν 15 2) = ν 15 2 := am_cR (by omega) (by omega)
  have c1 : am_c 1 = 1 := rfl
  have c2 : am_c 2 = 2 := rfl
  have c3 : am_c 3 = 3 := rfl
  have c4 : am_c 4 = 4 := rfl
  have cn : am_c (ν 15 4) = ν 15 4 := am_cR (by omega) (by omega)
  have b1 := am_m1_bn (n := ν 15 4) (rule := ν 15 2) (yard := ν 15 3) (f := F) hs
  have b2 := am_m2_bn (n := ν 15 4) (rule := ν 15 2) (yard := ν 15 3) (g := G) b1
  have f1 := hs F.toNat (by omega)
  have lp61 : ∀ (m : Nat) (i : Int) (μ : am_N) , (∀ a b, a ≠ 20 → μ a b = ν a b) → 0 ≤ i → i ≤ ν 15 4 → μ 20 = am_m3 (ν 15 2) i F (am_m2 (ν 15 2) (ν 15 3) G (am_m1 (ν 15 2) (ν 15 3) F (ν 20))) → ν 15 4 - i < (m : Int) → am_AW l 0 (fun _ => 0) 12 Q 61 [some (.inr (.inr 15)), some (.inl F), some (.inl G), some (.inl i)] [] μ := by
    intro m
    induction m with
    | zero =>
      intro i μ hv0 hv1 hv2 hv3 hm
      exfalso
      omega
    | succ m ih =>
      intro i μ hv0 hv1 hv2 hv3 hm
      have e2 : μ 15 2 = ν 15 2 := hv0 15 2 (by decide)
      have e3 : μ 15 3 = ν 15 3 := hv0 15 3 (by decide)
      have e4 : μ 15 4 = ν 15 4 := hv0 15 4 (by decide)
      have ci : am_c i = i := am_cR (by omega) (by omega)
      have b3 := am_m3_bn (n := ν 15 4) (rule := ν 15 2) (i := i) (f := F) b2
      have fi := fun q : i < ν 15 4 => b3 i.toNat (by omega)
      refine am_go (ct := fun pc => Nat.beq pc 61 || Nat.beq pc 59 || Nat.beq pc 34) am_oX0_mend 300 ?_
      conv => whnf
      repeat' first
        | (refine (?_ : am_wp _ _ _ _ _ _ _ _ _ _ _ _); conv => whnf)
        | (refine (?_ : am_sw _ _ _ _); conv => whnf)
        | refine And.intro trivial ?_
        | exact trivial
        | refine x_more_15 _ _ ?_ ?_ ?_ ?_ ?_ ?_ ?_ ?_
        | refine k _ ?_ ?_
        | refine x_more_15 _ _ ?_ ?_ ?_ ?_ ?_ ?_ ?_ ?_
        | refine ih _ _ ?_ ?_ ?_ ?_ ?_
        | refine And.intro (fun h => absurd h (by decide)) (fun _ => ?_)
        | refine And.intro (fun _ => ?_) (fun h => absurd (by decide) h)
        | refine And.intro (fun _ => ?_) (fun _ => ?_)
        | refine And.intro ?_ ?_
      all_goals (first | decide | assumption | omega | (simp only [e2, e3, e4, hv3, ci, cn, cF, cr, c4] at *; omega) | (rw [hv3]; exact (fi (by simp only [e2, e3, e4, ci, cn, cF, cr, c4] at *; omega)).1) | (rw [hv3]; exact (fi (by simp only [e2, e3, e4, ci, cn, cF, cr, c4] at *; omega)).2) | (intro a b h; rw [am_upN h]; exact hv0 a b h) | (rw [hv3]; unfold am_mn; rw [am_m3_n (by simp only [e2, e3, e4, ci, cn, cF, cr, c4] at *; omega), am_m3_n (by simp only [e2, e3, e4, ci, cn, cF, cr, c4] at *; omega)]) | (rw [hv3]; unfold am_mn; rw [show i = ν 15 4 by simp only [e2, e3, e4, ci, cn, cF, cr, c4] at *; omega]) | (rw [hv3]; exact am_m3_f (by simp only [e2, e3, e4, ci, cn, cF, cr, c4] at *; omega)) | (rw [am_pt_up, hv3]; exact am_m3_s (by simp only [e2, e3, e4, ci, cn, cF, cr, c4] at *; omega) hv1 (by simp only [e2, e3, e4, ci, cn, cF, cr, c4] at *; omega) rfl rfl) | (trace_state; fail))
  have lp61' : ∀ (i : Int) (μ : am_N) , (∀ a b, a ≠ 20 → μ a b = ν a b) → 0 ≤ i → i ≤ ν 15 4 → μ 20 = am_m3 (ν 15 2) i F (am_m2 (ν 15 2) (ν 15 3) G (am_m1 (ν 15 2) (ν 15 3) F (ν 20))) → am_AW l 0 (fun _ => 0) 12 Q 61 [some (.inr (.inr 15)), some (.inl F), some (.inl G), some (.inl i)] [] μ := fun i μ hv0 hv1 hv2 hv3 => lp61 ((ν 15 4 - i) + 1).toNat i μ hv0 hv1 hv2 hv3 (by omega)
  have lp59 : ∀  (μ : am_N), (∀ a b, a ≠ 20 → μ a b = ν a b) → μ 20 = am_m2 (ν 15 2) (ν 15 3) G (am_m1 (ν 15 2) (ν 15 3) F (ν 20)) → am_AW l 0 (fun _ => 0) 12 Q 59 [some (.inr (.inr 15)), some (.inl F), some (.inl G), none] [] μ := by
    intro  μ hv0 hv1
    refine am_go (ct := fun pc => Nat.beq pc 61 || Nat.beq pc 59 || Nat.beq pc 34) am_oX0_mend 300 ?_
    conv => whnf
    repeat' first
      | (refine (?_ : am_wp _ _ _ _ _ _ _ _ _ _ _ _); conv => whnf)
      | (refine (?_ : am_sw _ _ _ _); conv => whnf)
      | refine And.intro trivial ?_
      | exact trivial
      | refine x_more_15 _ _ ?_ ?_ ?_ ?_ ?_ ?_ ?_ ?_
      | refine lp61' _ _ ?_ ?_ ?_ ?_
      | refine And.intro (fun h => absurd h (by decide)) (fun _ => ?_)
      | refine And.intro (fun _ => ?_) (fun h => absurd (by decide) h)
      | refine And.intro (fun _ => ?_) (fun _ => ?_)
      | refine And.intro ?_ ?_
    all_goals (first | decide | assumption | omega | (rw [hv1, am_m3_0]) | (trace_state; fail))
  have lp34 : ∀  (μ : am_N), (∀ a b, a ≠ 20 → μ a b = ν a b) → μ 20 = am_m1 (ν 15 2) (ν 15 3) F (ν 20) → am_AW l 0 (fun _ => 0) 12 Q 34 [some (.inr (.inr 15)), some (.inl F), some (.inl G), none] [] μ := by
    intro  μ hv0 hv1
    have e2 : μ 15 2 = ν 15 2 := hv0 15 2 (by decide)
    have e3 : μ 15 3 = ν 15 3 := hv0 15 3 (by decide)
    have e4 : μ 15 4 = ν 15 4 := hv0 15 4 (by decide)
    have g1 := b1 G.toNat (by omega)
    refine am_go (ct := fun pc => Nat.beq pc 61 || Nat.beq pc 59 || Nat.beq pc 34) am_oX0_mend 300 ?_
    conv => whnf
    repeat' first
      | (refine (?_ : am_wp _ _ _ _ _ _ _ _ _ _ _ _); conv => whnf)
      | (refine (?_ : am_sw _ _ _ _); conv => whnf)
      | refine And.intro trivial ?_
      | exact trivial
      | refine x_more_15 _ _ ?_ ?_ ?_ ?_ ?_ ?_ ?_ ?_
      | refine x_more_15 _ _ ?_ ?_ ?_ ?_ ?_ ?_ ?_ ?_
      | refine lp59  _ ?_ ?_
      | refine lp61' _ _ ?_ ?_ ?_ ?_
      | refine And.intro (fun h => absurd h (by decide)) (fun _ => ?_)
      | refine And.intro (fun _ => ?_) (fun h => absurd (by decide) h)
      | refine And.intro (fun _ => ?_) (fun _ => ?_)
      | refine And.intro ?_ ?_
    all_goals (first | decide | assumption | omega | (simp only [e2, e3, e4, hv1, cr, c2, c3] at *; omega) | (rw [hv1]; first | exact g1.1 | exact g1.2) | (intro a b h; rw [am_upN h]; exact hv0 a b h) | (rw [am_pt_up, hv1]; unfold am_m2; rw [if_pos (by simp only [e2, e3, e4, cr, c2, c3] at *; omega), e3]) | (rw [hv1]; unfold am_m2; rw [if_neg (by simp only [e2, e3, e4, cr, c2, c3] at *; omega)]) | (trace_state; fail))
  refine am_go (ct := fun pc => Nat.beq pc 61 || Nat.beq pc 59 || Nat.beq pc 34) am_oX0_mend 300 ?_
  conv => whnf
  repeat' first
    | (refine (?_ : am_wp _ _ _ _ _ _ _ _ _ _ _ _); conv => whnf)
    | (refine (?_ : am_sw _ _ _ _); conv => whnf)
    | refine And.intro trivial ?_
    | exact trivial
    | refine x_more_15 _ _ ?_ ?_ ?_ ?_ ?_ ?_ ?_ ?_
    | refine lp34  _ ?_ ?_
    | refine lp59  _ ?_ ?_
    | refine lp61' _ _ ?_ ?_ ?_ ?_
    | refine And.intro (fun h => absurd h (by decide)) (fun _ => ?_)
    | refine And.intro (fun _ => ?_) (fun h => absurd (by decide) h)
    | refine And.intro (fun _ => ?_) (fun _ => ?_)
    | refine And.intro ?_ ?_
  all_goals (first | decide | assumption | omega | exact f1.1 | exact f1.2 | (simp only [cr, c1, c3, c4] at *; omega) | (intro a b h; exact am_upN h) | exact fun _ _ _ => rfl | (rw [am_pt_up]; unfold am_m1; rw [if_pos (by simp only [cr, c1, c3, c4] at *; omega)]; rfl) | (unfold am_m1; rw [if_neg (by simp only [cr, c1, c3, c4] at *; omega)]) | (trace_state; fail))
theorem x_first_29_15 {l : Launch} {ν : am_N} {Q : Option am_V → am_N → Prop} (F : Int) (h : ν 34 0 = F) (hn : 0 < ν 29 0) (hn1 : ν 29 0 ≤ 4) (k : Q (some (.inl F)) ν) : am_Does l 37 [.inr (.inr 29)] ν Q := by
  refine am_Does_of (Nat.le_of_ble_eq_true rfl) (Nat.le_of_ble_eq_true rfl) (Nat.le_of_ble_eq_true rfl) ?_
  have cn : am_c (ν 29 0) = ν 29 0 := am_cR (by omega) (by omega)
  have c0 : am_c 0 = 0 := rfl
  refine am_go (ct := fun _ => false) am_oX2_first 300 ?_
  conv => whnf
  repeat' first
    | (refine (?_ : am_wp _ _ _ _ _ _ _ _ _ _ _ _); conv => whnf)
    | (refine (?_ : am_sw _ _ _ _); conv => whnf)
    | refine And.intro trivial ?_
    | exact trivial
    | refine am_qe k ?_
    | refine And.intro (fun h => absurd h (by decide)) (fun _ => ?_)
    | refine And.intro (fun _ => ?_) (fun h => absurd (by decide) h)
    | refine And.intro (fun _ => ?_) (fun _ => ?_)
    | refine And.intro ?_ ?_
  all_goals (first | decide | omega | exact h | (simp only [cn, c0] at *; omega) | (trace_state; fail))
theorem x_last_29_15 {l : Launch} {ν : am_N} {Q : Option am_V → am_N → Prop} (G : Int) (h : ν 34 (ν 29 0 - 1).toNat = G) (hn : 0 < ν 29 0) (hn1 : ν 29 0 ≤ 4) (k : Q (some (.inl G)) ν) : am_Does l 38 [.inr (.inr 29)] ν Q := by
  refine am_Does_of (Nat.le_of_ble_eq_true rfl) (Nat.le_of_ble_eq_true rfl) (Nat.le_of_ble_eq_true rfl) ?_
  have cn : am_c (ν 29 0) = ν 29 0 := am_cR (by omega) (by omega)
  have c0 : am_c 0 = 0 := rfl
  have c1 : am_c (ν 29 0 - 1) = ν 29 0 - 1 := am_cR (by omega) (by omega)
  refine am_go (ct := fun _ => false) am_oX2_last 300 ?_
  conv => whnf
  repeat' first
    | (refine (?_ : am_wp _ _ _ _ _ _ _ _ _ _ _ _); conv => whnf)
    | (refine (?_ : am_sw _ _ _ _); conv => whnf)
    | refine And.intro trivial ?_
    | exact trivial
    | refine am_qe k ?_
    | refine And.intro (fun h => absurd h (by decide)) (fun _ => ?_)
    | refine And.intro (fun _ => ?_) (fun h => absurd (by decide) h)
    | refine And.intro (fun _ => ?_) (fun _ => ?_)
    | refine And.intro ?_ ?_
  all_goals (first | decide | omega | (rw [c1]; exact h) | (simp only [cn, c0, c1] at *; omega) | (trace_state; fail))
theorem x_behind_29_15 {l : Launch} {ν : am_N} {Q : Option am_V → am_N → Prop} (F G : Int) (hF : ν 34 0 = F) (hG : ν 34 (ν 29 0 - 1).toNat = G) (en : ν 29 0 = ν 15 4) (hF0 : 0 ≤ F) (hF1 : F < ν 15 4) (hG0 : 0 ≤ G) (hG1 : G < ν 15 4) (hn : ν 15 4 ≤ 4) (hr : 0 ≤ ν 15 2 ∧ ν 15 2 ≤ 4) (hy : 1 ≤ ν 15 3 ∧ ν 15 3 ≤ 9) (hs : ∀ b : Nat, (b : Int) < ν 15 4 → 0 ≤ ν 20 b ∧ ν 20 b ≤ 99) (k : ∀ μ' : am_N, (∀ a b, a ≠ 20 → ¬(a = 15 ∧ b = 1) → μ' a b = ν a b) → μ' 20 = am_mn (ν 15 2) (ν 15 3) (ν 15 4) F G (ν 20) → μ' 15 1 = ν 15 1 + 1 → Q none μ') : am_Does l 35 [.inr (.inr 29), .inr (.inr 15)] ν Q := by
  refine am_Does_of (Nat.le_of_ble_eq_true rfl) (Nat.le_of_ble_eq_true rfl) (Nat.le_of_ble_eq_true rfl) ?_
  refine am_go (ct := fun _ => false) am_oX2_behind 300 ?_
  conv => whnf
  repeat' first
    | (refine (?_ : am_wp _ _ _ _ _ _ _ _ _ _ _ _); conv => whnf)
    | (refine (?_ : am_sw _ _ _ _); conv => whnf)
    | refine And.intro trivial ?_
    | exact trivial
    | refine x_first_29_15 F hF ?_ ?_ ?_
    | refine x_last_29_15 G hG ?_ ?_ ?_
    | refine x_mend_15 _ _ hF0 hF1 hG0 hG1 hn hr hy hs (fun μ1 f1 s1 => ?_)
    | refine k _ ?_ ?_ ?_
    | refine And.intro (fun h => absurd h (by decide)) (fun _ => ?_)
    | refine And.intro (fun _ => ?_) (fun h => absurd (by decide) h)
    | refine And.intro (fun _ => ?_) (fun _ => ?_)
    | refine And.intro ?_ ?_
  all_goals (first | decide | omega | (intro a b h1 h2; rw [am_uE h2]; exact f1 a b h1) | (rw [am_pt_up]; exact s1) | (funext b; rw [am_upN (by decide), s1]) | (rw [am_upS, if_pos ⟨rfl, rfl⟩, f1 _ _ (by decide)]) | (trace_state; fail))
theorem fp_ah_g0 {ν μ1 : am_N} {i j : Int} {W : Int} (hW : W ≤ 2000) (hw : fp_fw W (fv ν 1)) (i0 : 0 ≤ i) (i1 : i < ν 1 4) (j0 : 0 ≤ j) (j1 : j < ν 1 4) (e1 : ∀ b : Nat, b < 4 → μ1 15 b = ν 1 b) (r0 : ∀ a : Nat, 0 < a → a < 7 → μ1 (15 + a) 0 = ν (1 + a) i.toNat) (r1 : ∀ a : Nat, 0 < a → a < 7 → μ1 (15 + a) 1 = ν (1 + a) j.toNat) (n1 : μ1 15 4 = 2) : am_fC μ1 15 ∧ ∀ q : Nat, (q : Int) < μ1 15 4 → 0 ≤ μ1 19 q ∧ μ1 19 q ≤ 20 := by
  obtain ⟨hf, -, -, -, -, -, hx⟩ := fw_C hw hW
  have zA := hf.2.2 i.toNat (by omega)
  have zB := hf.2.2 j.toNat (by omega)
  have yA := (hx i.toNat (by omega)).2.2.2
  have yB := (hx j.toNat (by omega)).2.2.2
  refine ⟨⟨by rw [n1]; decide, by rw [e1 0 (by decide)]; exact hf.2.1, fun q hq => ?_⟩, fun q hq => ?_⟩
  · rcases (show q = 0 ∨ q = 1 by rw [n1] at hq; omega) with rfl | rfl
    · rw [e1 1 (by decide), r0 1 (by decide) (by decide), r0 2 (by decide) (by decide), r0 3 (by decide) (by decide), r0 5 (by decide) (by decide)]; exact zA
    · rw [e1 1 (by decide), r1 1 (by decide) (by decide), r1 2 (by decide) (by decide), r1 3 (by decide) (by decide), r1 5 (by decide) (by decide)]; exact zB
  · rcases (show q = 0 ∨ q = 1 by rw [n1] at hq; omega) with rfl | rfl
    · have z := r0 4 (by decide) (by decide); rw [show μ1 19 0 = ν 5 i.toNat from z]; exact yA
    · have z := r1 4 (by decide) (by decide); rw [show μ1 19 1 = ν 5 j.toNat from z]; exact yB
theorem fp_ah_g1 {ν μ1 : am_N} {i j : Int} {W : Int} (hW : W ≤ 2000) (hw : fp_fw W (fv ν 1)) (i0 : 0 ≤ i) (i1 : i < ν 1 4) (j0 : 0 ≤ j) (j1 : j < ν 1 4) (e1 : ∀ b : Nat, b < 4 → μ1 15 b = ν 1 b) (r0 : ∀ a : Nat, 0 < a → a < 7 → μ1 (15 + a) 0 = ν (1 + a) j.toNat) (r1 : ∀ a : Nat, 0 < a → a < 7 → μ1 (15 + a) 1 = ν (1 + a) i.toNat) (n1 : μ1 15 4 = 2) : am_fC μ1 15 ∧ ∀ q : Nat, (q : Int) < μ1 15 4 → 0 ≤ μ1 19 q ∧ μ1 19 q ≤ 20 := by
  obtain ⟨hf, -, -, -, -, -, hx⟩ := fw_C hw hW
  have zA := hf.2.2 j.toNat (by omega)
  have zB := hf.2.2 i.toNat (by omega)
  have yA := (hx j.toNat (by omega)).2.2.2
  have yB := (hx i.toNat (by omega)).2.2.2
  refine ⟨⟨by rw [n1]; decide, by rw [e1 0 (by decide)]; exact hf.2.1, fun q hq => ?_⟩, fun q hq => ?_⟩
  · rcases (show q = 0 ∨ q = 1 by rw [n1] at hq; omega) with rfl | rfl
    · rw [e1 1 (by decide), r0 1 (by decide) (by decide), r0 2 (by decide) (by decide), r0 3 (by decide) (by decide), r0 5 (by decide) (by decide)]; exact zA
    · rw [e1 1 (by decide), r1 1 (by decide) (by decide), r1 2 (by decide) (by decide), r1 3 (by decide) (by decide), r1 5 (by decide) (by decide)]; exact zB
  · rcases (show q = 0 ∨ q = 1 by rw [n1] at hq; omega) with rfl | rfl
    · have z := r0 4 (by decide) (by decide); rw [show μ1 19 0 = ν 5 j.toNat from z]; exact yA
    · have z := r1 4 (by decide) (by decide); rw [show μ1 19 1 = ν 5 i.toNat from z]; exact yB
theorem n_aheadOfW {l : Launch} {ν : am_N} {Q : Option am_V → am_N → Prop} (i j : Int) {W : Int} (hW : W ≤ 2000) (hw : fp_fw W (mv ν)) (hi : 0 ≤ i ∧ i < ν 83 14) (hj : 0 ≤ j ∧ j < ν 83 14) (k : Q (some (.inl (fp_ah (mv ν) i.toNat j.toNat))) ν) : am_Does l 194 [.inr (.inr 83), .inl i, .inl j] ν Q := by
  refine am_Does_of (Nat.le_of_ble_eq_true rfl) (Nat.le_of_ble_eq_true rfl) (Nat.le_of_ble_eq_true rfl) ?_
  obtain ⟨hf, -, -, -, -, -, hx⟩ := fw_M hw hW
  have hn := hf.1
  have zi := am_TM_b (i := i.toNat) hf (by omega)
  have zj := am_TM_b (i := j.toNat) hf (by omega)
  have yi := (hx i.toNat (by omega)).2.2.2
  have yj := (hx j.toNat (by omega)).2.2.2
  have hz : fp_aw (if i.toNat < j.toNat then 0 else 1) (am_TM ν i.toNat) (ν 88 i.toNat) (am_TM ν j.toNat) (ν 88 j.toNat) = fp_ah (mv ν) i.toNat j.toNat := by
    unfold fp_ah
    rw [← mv_T (by omega), ← mv_T (by omega), show mv ν 4 i.toNat = ν 88 i.toNat from mv_a (a := 3) (by decide) (by omega), show mv ν 4 j.toNat = ν 88 j.toNat from mv_a (a := 3) (by decide) (by omega)]
  refine am_go (ct := fun _ => false) am_oX7_aheadOf 300 ?_
  conv => whnf
  repeat' first
    | (refine (?_ : am_wp _ _ _ _ _ _ _ _ _ _ _ _); conv => whnf)
    | (refine (?_ : am_sw _ _ _ _); conv => whnf)
    | refine And.intro trivial ?_
    | exact trivial
    | refine x_timeOf _ ?_ ?_ hf ?_
    | refine x_aheadBy _ _ _ _ ?_ ?_ ?_ ?_ ?_ ?_ ?_ ?_ yi yj ?_
    | exact am_qe k hz
    | refine And.intro (fun h => absurd h (by decide)) (fun _ => ?_)
    | refine And.intro (fun _ => ?_) (fun h => absurd (by decide) h)
    | refine And.intro (fun _ => ?_) (fun _ => ?_)
    | refine And.intro ?_ ?_
  all_goals (first | decide | omega | (trace_state; fail))
theorem s_hw0 {l : Launch} {ν : am_N} {Q : Option am_V → am_N → Prop} (i j q : Int) (ci : am_c i = i) (cj : am_c j = j) (hw : fp_fw 999 (fv ν 1)) (hij : i < j) (i0 : 0 ≤ i) (i1 : i < ν 1 4) (j0 : 0 ≤ j) (j1 : j < ν 1 4) (q0 : 0 ≤ q) (q3 : q ≤ 3) (hp : sx_3 ν 34) (k : ∀ μ' : am_N, (∀ a b, ¬(15 ≤ a ∧ a < 22) → ¬(30 ≤ a ∧ a ≤ 34) → ¬(a = 29 ∧ b = 0) → μ' a b = ν a b) → μ' 15 4 = 2 → μ' 29 0 = 2 → sx_3 μ' 34 → Q (some (.inl (fp_how (fv ν 1) i.toNat j.toNat q))) μ') : am_Does l 134 [.inr (.inr 0), .inl i, .inl j, .inl q] ν Q := by
  refine am_Does_of (Nat.le_of_ble_eq_true rfl) (Nat.le_of_ble_eq_true rfl) (Nat.le_of_ble_eq_true rfl) ?_
  have l0 : am_c 0 = 0 := rfl
  have l1 : am_c 1 = 1 := rfl
  have l2 : am_c 2 = 2 := rfl
  have l3 : am_c 3 = 3 := rfl
  have l4 : am_c 4 = 4 := rfl
  obtain ⟨hf1, hr, hyd, hst, -, -, hx1⟩ := fw_C hw (by decide)
  have n14 := hf1.1
  have i4 : i < 4 := by omega
  have j4 : j < 4 := by omega
  have ei : (am_c i).toNat = i.toNat := by rw [ci]
  have ej : (am_c j).toNat = j.toNat := by rw [cj]
  have cq : am_c q = q := am_cR (by omega) (by omega)
  have qt : (am_c q).tmod (am_c 2) = q % 2 := by rw [cq, l2, Int.tmod_eq_emod_of_nonneg q0]
  have cqt : am_c (q % 2) = q % 2 := am_cR (by omega) (by omega)
  have ti := am_TC_b (i := i.toNat) hf1 (by omega)
  have tj := am_TC_b (i := j.toNat) hf1 (by omega)
  have zi := hx1 i.toNat (by omega)
  have zj := hx1 j.toNat (by omega)
  have vT := fv_T (μ := ν) (c := 1) (i := i.toNat) (by omega)
  have vU := fv_T (μ := ν) (c := 1) (i := j.toNat) (by omega)
  have vS : fv ν 1 4 i.toNat = ν 5 i.toNat := fv_a (by decide) (by decide) (by omega)
  have vR : fv ν 1 4 j.toNat = ν 5 j.toNat := fv_a (by decide) (by decide) (by omega)
  have vG : fv ν 1 2 i.toNat = ν 3 i.toNat := fv_a (by decide) (by decide) (by omega)
  have vH : fv ν 1 2 j.toNat = ν 3 j.toNat := fv_a (by decide) (by decide) (by omega)
  have hAB : i.toNat ≠ j.toNat := by omega
  have zi3 : 0 ≤ ν 3 i.toNat ∧ ν 3 i.toNat ≤ 9 := zi.2.1
  have zj3 : 0 ≤ ν 3 j.toNat ∧ ν 3 j.toNat ≤ 9 := zj.2.1
  have xb : 1 ≤ fp_hx (fv ν 1) i.toNat q ∧ fp_hx (fv ν 1) i.toNat q ≤ 100000 := by unfold fp_hx; rw [← vT, vG]; split <;> omega
  have yb : 1 ≤ fp_hy (fv ν 1) j.toNat q ∧ fp_hy (fv ν 1) j.toNat q ≤ 100000 := by unfold fp_hy; rw [← vU, vH]; split <;> omega
  have lp67 : ∀ (x y : Int) (o7 : Option am_V) (μ : am_N), (∀ a b, ¬(15 ≤ a ∧ a < 22) → μ a b = ν a b) → μ 15 4 = 2 → (∀ b : Nat, b < 4 → μ 15 b = ν 1 b) → (∀ a : Nat, 0 < a → a < 7 → μ (15 + a) 0 = ν (1 + a) i.toNat) → (∀ a : Nat, 0 < a → a < 7 → μ (15 + a) 1 = ν (1 + a) j.toNat) → x = fp_hx (fv ν 1) i.toNat q → y = fp_hy (fv ν 1) j.toNat q → am_AW l 0 (fun _ => 0) 134 Q 67 [some (.inr (.inr 0)), some (.inl i), some (.inl j), some (.inl q), some (.inl 0), some (.inl x), some (.inl y), o7] [] μ := by
    intro x y o7 μ hv0 hv1 hv2 hv3 hv4 hv5 hv6
    have hx : 1 ≤ x ∧ x ≤ 100000 := by rw [hv5]; exact xb
    have hy : 1 ≤ y ∧ y ≤ 100000 := by rw [hv6]; exact yb
    have spi := zi.2.2.2
    have spj := zj.2.2.2
    obtain ⟨hf, hs⟩ := fp_ah_f0 hw i0 i1 j0 j1 hv2 hv3 hv4 hv1
    refine am_go (ct := fun pc => Nat.beq pc 67) am_oX6_holdWorth 300 ?_
    conv => whnf
    repeat' first
      | (refine (?_ : am_wp _ _ _ _ _ _ _ _ _ _ _ _); conv => whnf)
      | (refine (?_ : am_sw _ _ _ _); conv => whnf)
      | refine And.intro trivial ?_
      | exact trivial
      | (refine x_draw_15 hf hs (fun μ2 f2 d0 dr => ?_); have q2 : ∀ a b, a < 15 → μ2 a b = ν a b := (fun a b z => (f2 a b (by omega) (by omega)).trans (hv0 a b (by omega))))
      | (rw [ei, q2 5 _ (by decide)]; refine x_put 0 x (ν 5 i.toNat) (by decide) (by decide) hx.1 hx.2 spi.1 spi.2 (fun μ3 y1 y2 y3 y4 => ?_); have qq3 : ∀ a b, a < 30 → μ3 a b = μ2 a b := (fun a b z => y1 a b (by omega)))
      | (rw [ej, qq3 5 _ (by decide), q2 5 _ (by decide)]; refine x_put 1 y (ν 5 j.toNat) (by decide) (by decide) hy.1 hy.2 spj.1 spj.2 (fun μ4 z1 z2 z3 z4 => ?_); have a0 : μ4 30 0 = fp_pt x (ν 5 i.toNat) 0 := (z1 30 0 (by decide)).trans y2; have a1 : μ4 31 0 = x := (z1 31 0 (by decide)).trans y3; have a2 : μ4 32 0 = x + ν 5 i.toNat := (z1 32 0 (by decide)).trans y4; have b0 : μ4 30 1 = fp_pt y (ν 5 j.toNat) 0 := z2; have b1 : μ4 31 1 = y := z3; have b2 : μ4 32 1 = y + ν 5 j.toNat := z4; have f4 : ∀ a b, ¬(30 ≤ a ∧ a ≤ 32) → μ4 a b = μ2 a b := (fun a b z => (z1 a b (by omega)).trans (y1 a b (by omega))); have m29 : μ4 29 0 = 2 := (f4 29 0 (by omega)).trans (d0.trans hv1); have h4 : sx_3 μ4 34 := (fun c hc => by rw [f4 34 c (by omega), f2 34 c (by omega) (by omega), hv0 34 c (by omega)]; exact hp c hc); have hb := fp_cr_b m29 hx.1 hx.2 spi.1 spi.2 hy.1 hy.2 spj.1 spj.2 a0 a1 a2 b0 b1 b2; have ez := fp_cr_0 m29 a0 a1 a2 b0 b1 b2)
      | (refine x_ways 0 (by decide) (by rw [m29]; decide) (by rw [m29]; decide) hb ?_; rw [show fp_wy (μ4 30) (μ4 31) (μ4 32) (μ4 29 0).toNat (0 : Int).toNat = fp_aw 0 x (ν 5 i.toNat) y (ν 5 j.toNat) from ez])
      | (have n5 : (am_up (am_up μ4 33 0 x) 33 1 y) 29 0 = 2 := (am_upN (by decide)).trans ((am_upN (by decide)).trans m29); have t50 : (am_up (am_up μ4 33 0 x) 33 1 y) 33 0 = x := (am_upM (by decide)).trans (if_pos ⟨rfl, rfl⟩); have t51 : (am_up (am_up μ4 33 0 x) 33 1 y) 33 1 = y := if_pos ⟨rfl, rfl⟩; refine x_line (ν := am_up (am_up μ4 33 0 x) 33 1 y) (by rw [n5]; decide) (by rw [n5]; decide) (fun c hc => by rcases (show c = 0 ∨ c = 1 by rw [n5] at hc; omega) with rfl | rfl; (rw [t50]; omega); (rw [t51]; omega)) (fun μ6 f6 o6 s6 => ?_); rw [n5] at o6; have w6 := fp_o2 o6; rw [t50, t51] at w6; have h6 : sx_3 μ6 34 := s6 (sx_3N (sx_3N h4 (by decide)) (by decide)); have k6 : ∀ a b, a ≠ 33 → a ≠ 34 → μ6 a b = μ4 a b := (fun a b q1 q2 => (f6 a b q2).trans ((am_upN q1).trans (am_upN q1))); have u6 : ∀ a b, 15 ≤ a → a < 22 → μ6 a b = μ a b := (fun a b q1 q2 => (k6 a b (by omega) (by omega)).trans ((f4 a b (by omega)).trans (f2 a b (by omega) (by omega)))); have n6 : μ6 29 0 = 2 := (k6 29 0 (by decide) (by decide)).trans m29; have e6 : μ6 15 4 = 2 := (u6 15 4 (by decide) (by decide)).trans hv1; have hr6 : 0 ≤ μ6 15 2 ∧ μ6 15 2 ≤ 4 := (by rw [u6 15 2 (by decide) (by decide), hv2 2 (by decide)]; exact hr); have hy6 : 1 ≤ μ6 15 3 ∧ μ6 15 3 ≤ 9 := (by rw [u6 15 3 (by decide) (by decide), hv2 3 (by decide)]; exact hyd); have hs6 : ∀ c : Nat, (c : Int) < μ6 15 4 → 0 ≤ μ6 20 c ∧ μ6 20 c ≤ 99 := (fun c hc => by rw [u6 20 c (by decide) (by decide)]; rcases (show c = 0 ∨ c = 1 by rw [e6] at hc; omega) with rfl | rfl; (rw [show μ 20 0 = ν 6 i.toNat from hv3 5 (by decide) (by decide)]; exact hst _ (by omega)); (rw [show μ 20 1 = ν 6 j.toNat from hv4 5 (by decide) (by decide)]; exact hst _ (by omega))); by_cases d : y < x)
      | (have w := w6.2 d; refine x_behind_29_15 1 0 w.1 (by rw [n6]; exact w.2) (by rw [n6, e6]) (by decide) (by rw [e6]; decide) (by decide) (by rw [e6]; decide) (by rw [e6]; decide) hr6 hy6 hs6 (fun μ7 f7 s7 k7 => ?_); obtain ⟨E1, R0, R1, N7⟩ := fp_hr1 (μ7 := μ7) hr hAB hv2 hv3 hv4 hv1 (fun a b q1 q2 q3 q4 => (f7 a b q3 q4).trans (u6 a b q1 q2)) (k7.trans (by rw [u6 15 1 (by decide) (by decide)])) (s7.trans (by rw [u6 15 2 (by decide) (by decide), u6 15 3 (by decide) (by decide), u6 15 4 (by decide) (by decide), show μ6 20 = μ 20 from funext (fun b => u6 20 b (by decide) (by decide))])); have eG := fv_hg (ν := ν) (f := j.toNat) (l := i.toNat) (by omega) (by omega); have hfs := fp_ah_g0 (W := 1000) (by decide) (by rw [eG]; exact fw_hg hw) i0 (show i < fp_hG ν j.toNat i.toNat 1 4 from i1) j0 (show j < fp_hG ν j.toNat i.toNat 1 4 from j1) E1 R0 R1 N7; have fr7 : ∀ a b, ¬(15 ≤ a ∧ a < 22) → ¬(30 ≤ a ∧ a ≤ 34) → ¬(a = 29 ∧ b = 0) → μ7 a b = ν a b := (fun a b q1 q2 q3 => (f7 a b (by omega) (by omega)).trans ((k6 a b (by omega) (by omega)).trans ((f4 a b (by omega)).trans ((f2 a b (by omega) q3).trans (hv0 a b q1))))); have h7 : sx_3 μ7 34 := (fun c hc => by rw [f7 34 c (by decide) (fun z => absurd z.1 (by decide))]; exact h6 c hc); have fin : fp_aw 0 x (ν 5 i.toNat) y (ν 5 j.toNat) + fp_ah (fv (fp_hG ν j.toNat i.toNat) 1) i.toNat j.toNat = fp_how (fv ν 1) i.toNat j.toNat q := (by rw [eG]; unfold fp_how fp_hov fp_h1; rw [← hv5, ← hv6, vS, vR, if_pos (by omega)]; first | rw [if_pos (show x < y ∨ (x = y ∧ i.toNat < j.toNat) by omega)] | rw [if_neg (show ¬(x < y ∨ (x = y ∧ i.toNat < j.toNat)) by omega)]))
      | (have w := w6.1 d; refine x_behind_29_15 0 1 w.1 (by rw [n6]; exact w.2) (by rw [n6, e6]) (by decide) (by rw [e6]; decide) (by decide) (by rw [e6]; decide) (by rw [e6]; decide) hr6 hy6 hs6 (fun μ7 f7 s7 k7 => ?_); obtain ⟨E1, R0, R1, N7⟩ := fp_hr0 (μ7 := μ7) hr hAB hv2 hv3 hv4 hv1 (fun a b q1 q2 q3 q4 => (f7 a b q3 q4).trans (u6 a b q1 q2)) (k7.trans (by rw [u6 15 1 (by decide) (by decide)])) (s7.trans (by rw [u6 15 2 (by decide) (by decide), u6 15 3 (by decide) (by decide), u6 15 4 (by decide) (by decide), show μ6 20 = μ 20 from funext (fun b => u6 20 b (by decide) (by decide))])); have eG := fv_hg (ν := ν) (f := i.toNat) (l := j.toNat) (by omega) (by omega); have hfs := fp_ah_g0 (W := 1000) (by decide) (by rw [eG]; exact fw_hg hw) i0 (show i < fp_hG ν i.toNat j.toNat 1 4 from i1) j0 (show j < fp_hG ν i.toNat j.toNat 1 4 from j1) E1 R0 R1 N7; have fr7 : ∀ a b, ¬(15 ≤ a ∧ a < 22) → ¬(30 ≤ a ∧ a ≤ 34) → ¬(a = 29 ∧ b = 0) → μ7 a b = ν a b := (fun a b q1 q2 q3 => (f7 a b (by omega) (by omega)).trans ((k6 a b (by omega) (by omega)).trans ((f4 a b (by omega)).trans ((f2 a b (by omega) q3).trans (hv0 a b q1))))); have h7 : sx_3 μ7 34 := (fun c hc => by rw [f7 34 c (by decide) (fun z => absurd z.1 (by decide))]; exact h6 c hc); have fin : fp_aw 0 x (ν 5 i.toNat) y (ν 5 j.toNat) + fp_ah (fv (fp_hG ν i.toNat j.toNat) 1) i.toNat j.toNat = fp_how (fv ν 1) i.toNat j.toNat q := (by rw [eG]; unfold fp_how fp_hov fp_h1; rw [← hv5, ← hv6, vS, vR, if_pos (by omega)]; first | rw [if_pos (show x < y ∨ (x = y ∧ i.toNat < j.toNat) by omega)] | rw [if_neg (show ¬(x < y ∨ (x = y ∧ i.toNat < j.toNat)) by omega)]))
      | (refine x_draw_15 hfs.1 hfs.2 (fun μ8 f8 d8 dr8 => ?_); have hb8 := fp_rw_b (c := 15) hfs.1 hfs.2 d8 dr8; have n8 : μ8 29 0 = 2 := d8.trans N7; have ez8 := fp_ah_r0 hij i0 i4 j0 j4 E1 R0 R1 N7 d8 dr8; have fr8 : (∀ a b, ¬(15 ≤ a ∧ a < 22) → ¬(30 ≤ a ∧ a ≤ 34) → ¬(a = 29 ∧ b = 0) → μ8 a b = ν a b) := (fun a b q1 q2 q3 => (f8 a b (by omega) q3).trans (fr7 a b q1 q2 q3)); have m15 : μ8 15 4 = 2 := (f8 15 4 (by omega) (by omega)).trans N7; have p8 : sx_3 μ8 34 := (fun c hc => by rw [f8 34 c (by omega) (by omega)]; exact h7 c hc))
      | (refine x_ways 0 (by decide) (by rw [n8]; decide) (by rw [n8]; decide) hb8 ?_)
      | (refine am_qe (k μ8 fr8 m15 n8 p8) ((fp_ad2 rfl ez8).trans fin))
      | (refine x_alone0 _ _ ci cj hij i0 i4 j0 j4 (fun μ1 f1 e1 n1 r0 r1 => ?_); obtain ⟨g1, g2⟩ := am_fC_ch (c := 1) (fun a b q1 q2 => f1 a b (by omega)); have eFi : μ1 3 i.toNat = fv ν 1 2 i.toNat := (f1 3 _ (by omega)).trans vG.symm; have eFj : μ1 3 j.toNat = fv ν 1 2 j.toNat := (f1 3 _ (by omega)).trans vH.symm)
      | (refine x_tenths_1 i i0 (by rw [f1 1 4 (by omega)]; exact i1) (g1 hf1) ?_; rw [g2, vT])
      | (refine x_tenths_1 j j0 (by rw [f1 1 4 (by omega)]; exact j1) (g1 hf1) ?_; rw [g2, vU])
      | refine And.intro (fun h => absurd h (by decide)) (fun _ => ?_)
      | refine And.intro (fun _ => ?_) (fun h => absurd (by decide) h)
      | refine And.intro (fun _ => ?_) (fun _ => ?_)
      | refine And.intro ?_ ?_
    all_goals (first | decide | assumption | omega | (trace_state; fail))
  refine am_go (ct := fun pc => Nat.beq pc 67) am_oX6_holdWorth 300 ?_
  conv => whnf
  repeat' first
    | (refine (?_ : am_wp _ _ _ _ _ _ _ _ _ _ _ _); conv => whnf)
    | (refine (?_ : am_sw _ _ _ _); conv => whnf)
    | refine And.intro trivial ?_
    | exact trivial
    | (refine x_alone0 _ _ ci cj hij i0 i4 j0 j4 (fun μ1 f1 e1 n1 r0 r1 => ?_); obtain ⟨g1, g2⟩ := am_fC_ch (c := 1) (fun a b q1 q2 => f1 a b (by omega)); have eFi : μ1 3 i.toNat = fv ν 1 2 i.toNat := (f1 3 _ (by omega)).trans vG.symm; have eFj : μ1 3 j.toNat = fv ν 1 2 j.toNat := (f1 3 _ (by omega)).trans vH.symm)
    | (refine x_tenths_1 i i0 (by rw [f1 1 4 (by omega)]; exact i1) (g1 hf1) ?_; rw [g2, vT])
    | (refine x_tenths_1 j j0 (by rw [f1 1 4 (by omega)]; exact j1) (g1 hf1) ?_; rw [g2, vU])
    | refine lp67 _ _ _ _ ?_ ?_ ?_ ?_ ?_ ?_ ?_
    | refine And.intro (fun h => absurd h (by decide)) (fun _ => ?_)
    | refine And.intro (fun _ => ?_) (fun h => absurd (by decide) h)
    | refine And.intro (fun _ => ?_) (fun _ => ?_)
    | refine And.intro ?_ ?_
  all_goals (first | decide | assumption | omega | rfl | (rw [ci]; omega) | (rw [cj]; omega) | (unfold fp_hx; simp only [ei, eFi] at *; first | (rw [if_pos (by (simp only [cq, l2] at *; first | done | omega))]) | (rw [if_neg (by (simp only [cq, l2] at *; first | done | omega))])) | (unfold fp_hy; simp only [ej, eFj] at *; first | (rw [if_pos (by (simp only [qt, cqt, l0] at *; first | done | omega))]) | (rw [if_neg (by (simp only [qt, cqt, l0] at *; first | done | omega))])) | (trace_state; fail))
theorem s_hw1 {l : Launch} {ν : am_N} {Q : Option am_V → am_N → Prop} (i j q : Int) (ci : am_c i = i) (cj : am_c j = j) (hw : fp_fw 999 (fv ν 1)) (hij : j < i) (i0 : 0 ≤ i) (i1 : i < ν 1 4) (j0 : 0 ≤ j) (j1 : j < ν 1 4) (q0 : 0 ≤ q) (q3 : q ≤ 3) (hp : sx_3 ν 34) (k : ∀ μ' : am_N, (∀ a b, ¬(15 ≤ a ∧ a < 22) → ¬(30 ≤ a ∧ a ≤ 34) → ¬(a = 29 ∧ b = 0) → μ' a b = ν a b) → μ' 15 4 = 2 → μ' 29 0 = 2 → sx_3 μ' 34 → Q (some (.inl (fp_how (fv ν 1) i.toNat j.toNat q))) μ') : am_Does l 134 [.inr (.inr 0), .inl i, .inl j, .inl q] ν Q := by
  refine am_Does_of (Nat.le_of_ble_eq_true rfl) (Nat.le_of_ble_eq_true rfl) (Nat.le_of_ble_eq_true rfl) ?_
  have l0 : am_c 0 = 0 := rfl
  have l1 : am_c 1 = 1 := rfl
  have l2 : am_c 2 = 2 := rfl
  have l3 : am_c 3 = 3 := rfl
  have l4 : am_c 4 = 4 := rfl
  obtain ⟨hf1, hr, hyd, hst, -, -, hx1⟩ := fw_C hw (by decide)
  have n14 := hf1.1
  have i4 : i < 4 := by omega
  have j4 : j < 4 := by omega
  have ei : (am_c i).toNat = i.toNat := by rw [ci]
  have ej : (am_c j).toNat = j.toNat := by rw [cj]
  have cq : am_c q = q := am_cR (by omega) (by omega)
  have qt : (am_c q).tmod (am_c 2) = q % 2 := by rw [cq, l2, Int.tmod_eq_emod_of_nonneg q0]
  have cqt : am_c (q % 2) = q % 2 := am_cR (by omega) (by omega)
  have ti := am_TC_b (i := i.toNat) hf1 (by omega)
  have tj := am_TC_b (i := j.toNat) hf1 (by omega)
  have zi := hx1 i.toNat (by omega)
  have zj := hx1 j.toNat (by omega)
  have vT := fv_T (μ := ν) (c := 1) (i := i.toNat) (by omega)
  have vU := fv_T (μ := ν) (c := 1) (i := j.toNat) (by omega)
  have vS : fv ν 1 4 i.toNat = ν 5 i.toNat := fv_a (by decide) (by decide) (by omega)
  have vR : fv ν 1 4 j.toNat = ν 5 j.toNat := fv_a (by decide) (by decide) (by omega)
  have vG : fv ν 1 2 i.toNat = ν 3 i.toNat := fv_a (by decide) (by decide) (by omega)
  have vH : fv ν 1 2 j.toNat = ν 3 j.toNat := fv_a (by decide) (by decide) (by omega)
  have hAB : j.toNat ≠ i.toNat := by omega
  have zi3 : 0 ≤ ν 3 i.toNat ∧ ν 3 i.toNat ≤ 9 := zi.2.1
  have zj3 : 0 ≤ ν 3 j.toNat ∧ ν 3 j.toNat ≤ 9 := zj.2.1
  have xb : 1 ≤ fp_hx (fv ν 1) i.toNat q ∧ fp_hx (fv ν 1) i.toNat q ≤ 100000 := by unfold fp_hx; rw [← vT, vG]; split <;> omega
  have yb : 1 ≤ fp_hy (fv ν 1) j.toNat q ∧ fp_hy (fv ν 1) j.toNat q ≤ 100000 := by unfold fp_hy; rw [← vU, vH]; split <;> omega
  have lp67 : ∀ (x y : Int) (o7 : Option am_V) (μ : am_N), (∀ a b, ¬(15 ≤ a ∧ a < 22) → μ a b = ν a b) → μ 15 4 = 2 → (∀ b : Nat, b < 4 → μ 15 b = ν 1 b) → (∀ a : Nat, 0 < a → a < 7 → μ (15 + a) 0 = ν (1 + a) j.toNat) → (∀ a : Nat, 0 < a → a < 7 → μ (15 + a) 1 = ν (1 + a) i.toNat) → x = fp_hx (fv ν 1) i.toNat q → y = fp_hy (fv ν 1) j.toNat q → am_AW l 0 (fun _ => 0) 134 Q 67 [some (.inr (.inr 0)), some (.inl i), some (.inl j), some (.inl q), some (.inl 1), some (.inl x), some (.inl y), o7] [] μ := by
    intro x y o7 μ hv0 hv1 hv2 hv3 hv4 hv5 hv6
    have hx : 1 ≤ x ∧ x ≤ 100000 := by rw [hv5]; exact xb
    have hy : 1 ≤ y ∧ y ≤ 100000 := by rw [hv6]; exact yb
    have spi := zi.2.2.2
    have spj := zj.2.2.2
    obtain ⟨hf, hs⟩ := fp_ah_f1 hw i0 i1 j0 j1 hv2 hv3 hv4 hv1
    refine am_go (ct := fun pc => Nat.beq pc 67) am_oX6_holdWorth 300 ?_
    conv => whnf
    repeat' first
      | (refine (?_ : am_wp _ _ _ _ _ _ _ _ _ _ _ _); conv => whnf)
      | (refine (?_ : am_sw _ _ _ _); conv => whnf)
      | refine And.intro trivial ?_
      | exact trivial
      | (refine x_draw_15 hf hs (fun μ2 f2 d0 dr => ?_); have q2 : ∀ a b, a < 15 → μ2 a b = ν a b := (fun a b z => (f2 a b (by omega) (by omega)).trans (hv0 a b (by omega))))
      | (rw [ei, q2 5 _ (by decide)]; refine x_put 1 x (ν 5 i.toNat) (by decide) (by decide) hx.1 hx.2 spi.1 spi.2 (fun μ3 y1 y2 y3 y4 => ?_); have qq3 : ∀ a b, a < 30 → μ3 a b = μ2 a b := (fun a b z => y1 a b (by omega)))
      | (rw [ej, qq3 5 _ (by decide), q2 5 _ (by decide)]; refine x_put 0 y (ν 5 j.toNat) (by decide) (by decide) hy.1 hy.2 spj.1 spj.2 (fun μ4 z1 z2 z3 z4 => ?_); have a0 : μ4 30 1 = fp_pt x (ν 5 i.toNat) 0 := (z1 30 1 (by decide)).trans y2; have a1 : μ4 31 1 = x := (z1 31 1 (by decide)).trans y3; have a2 : μ4 32 1 = x + ν 5 i.toNat := (z1 32 1 (by decide)).trans y4; have b0 : μ4 30 0 = fp_pt y (ν 5 j.toNat) 0 := z2; have b1 : μ4 31 0 = y := z3; have b2 : μ4 32 0 = y + ν 5 j.toNat := z4; have f4 : ∀ a b, ¬(30 ≤ a ∧ a ≤ 32) → μ4 a b = μ2 a b := (fun a b z => (z1 a b (by omega)).trans (y1 a b (by omega))); have m29 : μ4 29 0 = 2 := (f4 29 0 (by omega)).trans (d0.trans hv1); have h4 : sx_3 μ4 34 := (fun c hc => by rw [f4 34 c (by omega), f2 34 c (by omega) (by omega), hv0 34 c (by omega)]; exact hp c hc); have hb := fp_cr_b m29 hy.1 hy.2 spj.1 spj.2 hx.1 hx.2 spi.1 spi.2 b0 b1 b2 a0 a1 a2; have ez := fp_cr_1 m29 a0 a1 a2 b0 b1 b2)
      | (refine x_ways 1 (by decide) (by rw [m29]; decide) (by rw [m29]; decide) hb ?_; rw [show fp_wy (μ4 30) (μ4 31) (μ4 32) (μ4 29 0).toNat (1 : Int).toNat = fp_aw 1 x (ν 5 i.toNat) y (ν 5 j.toNat) from ez])
      | (have n5 : (am_up (am_up μ4 33 1 x) 33 0 y) 29 0 = 2 := (am_upN (by decide)).trans ((am_upN (by decide)).trans m29); have t50 : (am_up (am_up μ4 33 1 x) 33 0 y) 33 0 = y := if_pos ⟨rfl, rfl⟩; have t51 : (am_up (am_up μ4 33 1 x) 33 0 y) 33 1 = x := (am_upM (by decide)).trans (if_pos ⟨rfl, rfl⟩); refine x_line (ν := am_up (am_up μ4 33 1 x) 33 0 y) (by rw [n5]; decide) (by rw [n5]; decide) (fun c hc => by rcases (show c = 0 ∨ c = 1 by rw [n5] at hc; omega) with rfl | rfl; (rw [t50]; omega); (rw [t51]; omega)) (fun μ6 f6 o6 s6 => ?_); rw [n5] at o6; have w6 := fp_o2 o6; rw [t50, t51] at w6; have h6 : sx_3 μ6 34 := s6 (sx_3N (sx_3N h4 (by decide)) (by decide)); have k6 : ∀ a b, a ≠ 33 → a ≠ 34 → μ6 a b = μ4 a b := (fun a b q1 q2 => (f6 a b q2).trans ((am_upN q1).trans (am_upN q1))); have u6 : ∀ a b, 15 ≤ a → a < 22 → μ6 a b = μ a b := (fun a b q1 q2 => (k6 a b (by omega) (by omega)).trans ((f4 a b (by omega)).trans (f2 a b (by omega) (by omega)))); have n6 : μ6 29 0 = 2 := (k6 29 0 (by decide) (by decide)).trans m29; have e6 : μ6 15 4 = 2 := (u6 15 4 (by decide) (by decide)).trans hv1; have hr6 : 0 ≤ μ6 15 2 ∧ μ6 15 2 ≤ 4 := (by rw [u6 15 2 (by decide) (by decide), hv2 2 (by decide)]; exact hr); have hy6 : 1 ≤ μ6 15 3 ∧ μ6 15 3 ≤ 9 := (by rw [u6 15 3 (by decide) (by decide), hv2 3 (by decide)]; exact hyd); have hs6 : ∀ c : Nat, (c : Int) < μ6 15 4 → 0 ≤ μ6 20 c ∧ μ6 20 c ≤ 99 := (fun c hc => by rw [u6 20 c (by decide) (by decide)]; rcases (show c = 0 ∨ c = 1 by rw [e6] at hc; omega) with rfl | rfl; (rw [show μ 20 0 = ν 6 j.toNat from hv3 5 (by decide) (by decide)]; exact hst _ (by omega)); (rw [show μ 20 1 = ν 6 i.toNat from hv4 5 (by decide) (by decide)]; exact hst _ (by omega))); by_cases d : x < y)
      | (have w := w6.2 d; refine x_behind_29_15 1 0 w.1 (by rw [n6]; exact w.2) (by rw [n6, e6]) (by decide) (by rw [e6]; decide) (by decide) (by rw [e6]; decide) (by rw [e6]; decide) hr6 hy6 hs6 (fun μ7 f7 s7 k7 => ?_); obtain ⟨E1, R0, R1, N7⟩ := fp_hr1 (μ7 := μ7) hr hAB hv2 hv3 hv4 hv1 (fun a b q1 q2 q3 q4 => (f7 a b q3 q4).trans (u6 a b q1 q2)) (k7.trans (by rw [u6 15 1 (by decide) (by decide)])) (s7.trans (by rw [u6 15 2 (by decide) (by decide), u6 15 3 (by decide) (by decide), u6 15 4 (by decide) (by decide), show μ6 20 = μ 20 from funext (fun b => u6 20 b (by decide) (by decide))])); have eG := fv_hg (ν := ν) (f := i.toNat) (l := j.toNat) (by omega) (by omega); have hfs := fp_ah_g1 (W := 1000) (by decide) (by rw [eG]; exact fw_hg hw) i0 (show i < fp_hG ν i.toNat j.toNat 1 4 from i1) j0 (show j < fp_hG ν i.toNat j.toNat 1 4 from j1) E1 R0 R1 N7; have fr7 : ∀ a b, ¬(15 ≤ a ∧ a < 22) → ¬(30 ≤ a ∧ a ≤ 34) → ¬(a = 29 ∧ b = 0) → μ7 a b = ν a b := (fun a b q1 q2 q3 => (f7 a b (by omega) (by omega)).trans ((k6 a b (by omega) (by omega)).trans ((f4 a b (by omega)).trans ((f2 a b (by omega) q3).trans (hv0 a b q1))))); have h7 : sx_3 μ7 34 := (fun c hc => by rw [f7 34 c (by decide) (fun z => absurd z.1 (by decide))]; exact h6 c hc); have fin : fp_aw 1 x (ν 5 i.toNat) y (ν 5 j.toNat) + fp_ah (fv (fp_hG ν i.toNat j.toNat) 1) i.toNat j.toNat = fp_how (fv ν 1) i.toNat j.toNat q := (by rw [eG]; unfold fp_how fp_hov fp_h1; rw [← hv5, ← hv6, vS, vR, if_neg (by omega)]; first | rw [if_pos (show x < y ∨ (x = y ∧ i.toNat < j.toNat) by omega)] | rw [if_neg (show ¬(x < y ∨ (x = y ∧ i.toNat < j.toNat)) by omega)]))
      | (have w := w6.1 d; refine x_behind_29_15 0 1 w.1 (by rw [n6]; exact w.2) (by rw [n6, e6]) (by decide) (by rw [e6]; decide) (by decide) (by rw [e6]; decide) (by rw [e6]; decide) hr6 hy6 hs6 (fun μ7 f7 s7 k7 => ?_); obtain ⟨E1, R0, R1, N7⟩ := fp_hr0 (μ7 := μ7) hr hAB hv2 hv3 hv4 hv1 (fun a b q1 q2 q3 q4 => (f7 a b q3 q4).trans (u6 a b q1 q2)) (k7.trans (by rw [u6 15 1 (by decide) (by decide)])) (s7.trans (by rw [u6 15 2 (by decide) (by decide), u6 15 3 (by decide) (by decide), u6 15 4 (by decide) (by decide), show μ6 20 = μ 20 from funext (fun b => u6 20 b (by decide) (by decide))])); have eG := fv_hg (ν := ν) (f := j.toNat) (l := i.toNat) (by omega) (by omega); have hfs := fp_ah_g1 (W := 1000) (by decide) (by rw [eG]; exact fw_hg hw) i0 (show i < fp_hG ν j.toNat i.toNat 1 4 from i1) j0 (show j < fp_hG ν j.toNat i.toNat 1 4 from j1) E1 R0 R1 N7; have fr7 : ∀ a b, ¬(15 ≤ a ∧ a < 22) → ¬(30 ≤ a ∧ a ≤ 34) → ¬(a = 29 ∧ b = 0) → μ7 a b = ν a b := (fun a b q1 q2 q3 => (f7 a b (by omega) (by omega)).trans ((k6 a b (by omega) (by omega)).trans ((f4 a b (by omega)).trans ((f2 a b (by omega) q3).trans (hv0 a b q1))))); have h7 : sx_3 μ7 34 := (fun c hc => by rw [f7 34 c (by decide) (fun z => absurd z.1 (by decide))]; exact h6 c hc); have fin : fp_aw 1 x (ν 5 i.toNat) y (ν 5 j.toNat) + fp_ah (fv (fp_hG ν j.toNat i.toNat) 1) i.toNat j.toNat = fp_how (fv ν 1) i.toNat j.toNat q := (by rw [eG]; unfold fp_how fp_hov fp_h1; rw [← hv5, ← hv6, vS, vR, if_neg (by omega)]; first | rw [if_pos (show x < y ∨ (x = y ∧ i.toNat < j.toNat) by omega)] | rw [if_neg (show ¬(x < y ∨ (x = y ∧ i.toNat < j.toNat)) by omega)]))
      | (refine x_draw_15 hfs.1 hfs.2 (fun μ8 f8 d8 dr8 => ?_); have hb8 := fp_rw_b (c := 15) hfs.1 hfs.2 d8 dr8; have n8 : μ8 29 0 = 2 := d8.trans N7; have ez8 := fp_ah_r1 hij i0 i4 j0 j4 E1 R0 R1 N7 d8 dr8; have fr8 : (∀ a b, ¬(15 ≤ a ∧ a < 22) → ¬(30 ≤ a ∧ a ≤ 34) → ¬(a = 29 ∧ b = 0) → μ8 a b = ν a b) := (fun a b q1 q2 q3 => (f8 a b (by omega) q3).trans (fr7 a b q1 q2 q3)); have m15 : μ8 15 4 = 2 := (f8 15 4 (by omega) (by omega)).trans N7; have p8 : sx_3 μ8 34 := (fun c hc => by rw [f8 34 c (by omega) (by omega)]; exact h7 c hc))
      | (refine x_ways 1 (by decide) (by rw [n8]; decide) (by rw [n8]; decide) hb8 ?_)
      | (refine am_qe (k μ8 fr8 m15 n8 p8) ((fp_ad2 rfl ez8).trans fin))
      | (refine x_alone1 _ _ ci cj hij i0 i4 j0 j4 (fun μ1 f1 e1 n1 r0 r1 => ?_); obtain ⟨g1, g2⟩ := am_fC_ch (c := 1) (fun a b q1 q2 => f1 a b (by omega)); have eFi : μ1 3 i.toNat = fv ν 1 2 i.toNat := (f1 3 _ (by omega)).trans vG.symm; have eFj : μ1 3 j.toNat = fv ν 1 2 j.toNat := (f1 3 _ (by omega)).trans vH.symm)
      | (refine x_tenths_1 i i0 (by rw [f1 1 4 (by omega)]; exact i1) (g1 hf1) ?_; rw [g2, vT])
      | (refine x_tenths_1 j j0 (by rw [f1 1 4 (by omega)]; exact j1) (g1 hf1) ?_; rw [g2, vU])
      | refine And.intro (fun h => absurd h (by decide)) (fun _ => ?_)
      | refine And.intro (fun _ => ?_) (fun h => absurd (by decide) h)
      | refine And.intro (fun _ => ?_) (fun _ => ?_)
      | refine And.intro ?_ ?_
    all_goals (first | decide | assumption | omega | (trace_state; fail))
  refine am_go (ct := fun pc => Nat.beq pc 67) am_oX6_holdWorth 300 ?_
  conv => whnf
  repeat' first
    | (refine (?_ : am_wp _ _ _ _ _ _ _ _ _ _ _ _); conv => whnf)
    | (refine (?_ : am_sw _ _ _ _); conv => whnf)
    | refine And.intro trivial ?_
    | exact trivial
    | (refine x_alone1 _ _ ci cj hij i0 i4 j0 j4 (fun μ1 f1 e1 n1 r0 r1 => ?_); obtain ⟨g1, g2⟩ := am_fC_ch (c := 1) (fun a b q1 q2 => f1 a b (by omega)); have eFi : μ1 3 i.toNat = fv ν 1 2 i.toNat := (f1 3 _ (by omega)).trans vG.symm; have eFj : μ1 3 j.toNat = fv ν 1 2 j.toNat := (f1 3 _ (by omega)).trans vH.symm)
    | (refine x_tenths_1 i i0 (by rw [f1 1 4 (by omega)]; exact i1) (g1 hf1) ?_; rw [g2, vT])
    | (refine x_tenths_1 j j0 (by rw [f1 1 4 (by omega)]; exact j1) (g1 hf1) ?_; rw [g2, vU])
    | refine lp67 _ _ _ _ ?_ ?_ ?_ ?_ ?_ ?_ ?_
    | refine And.intro (fun h => absurd h (by decide)) (fun _ => ?_)
    | refine And.intro (fun _ => ?_) (fun h => absurd (by decide) h)
    | refine And.intro (fun _ => ?_) (fun _ => ?_)
    | refine And.intro ?_ ?_
  all_goals (first | decide | assumption | omega | rfl | (rw [ci]; omega) | (rw [cj]; omega) | (unfold fp_hx; simp only [ei, eFi] at *; first | (rw [if_pos (by (simp only [cq, l2] at *; first | done | omega))]) | (rw [if_neg (by (simp only [cq, l2] at *; first | done | omega))])) | (unfold fp_hy; simp only [ej, eFj] at *; first | (rw [if_pos (by (simp only [qt, cqt, l0] at *; first | done | omega))]) | (rw [if_neg (by (simp only [qt, cqt, l0] at *; first | done | omega))])) | (trace_state; fail))
theorem s_hworth {l : Launch} {ν μ : am_N} {Q : Option am_V → am_N → Prop} (i j q : Int) (ci : am_c i = i) (cj : am_c j = j) (hE : fp_HW ν μ) (hw : fp_fw 999 (fv ν 1)) (hij : i ≠ j) (hi : 0 ≤ i ∧ i < ν 1 4) (hj : 0 ≤ j ∧ j < ν 1 4) (q0 : 0 ≤ q) (q3 : q ≤ 3) (k : ∀ μ' : am_N, fp_HW ν μ' → Q (some (.inl (fp_how (fv ν 1) i.toNat j.toNat q))) μ') : am_Does l 134 [.inr (.inr 0), .inl i, .inl j, .inl q] μ Q := by
  have f0 := hE.1
  have e14 : μ 1 4 = ν 1 4 := f0 1 4 (by omega) (by omega) (by omega)
  have eF : fv μ 1 = fv ν 1 := fv_keep (fun a b q1 q2 => f0 a b (by omega) (by omega) (by omega))
  have kk : ∀ μ' : am_N, (∀ a b, ¬(15 ≤ a ∧ a < 22) → ¬(30 ≤ a ∧ a ≤ 34) → ¬(a = 29 ∧ b = 0) → μ' a b = μ a b) → μ' 15 4 = 2 → μ' 29 0 = 2 → sx_3 μ' 34 → Q (some (.inl (fp_how (fv μ 1) i.toNat j.toNat q))) μ' := fun μ' f n15 n29 p => by
    rw [eF]
    exact k μ' ⟨fun a b q1 q2 q3 => (f a b q1 q2 q3).trans (f0 a b q1 q2 q3), p, by rw [n15]; decide, by rw [n29]; decide⟩
  rcases (show i < j ∨ j < i by omega) with h | h
  · exact s_hw0 i j q ci cj (by rw [eF]; exact hw) h hi.1 (by rw [e14]; exact hi.2) hj.1 (by rw [e14]; exact hj.2) q0 q3 hE.2.1 kk
  · exact s_hw1 i j q ci cj (by rw [eF]; exact hw) h hi.1 (by rw [e14]; exact hi.2) hj.1 (by rw [e14]; exact hj.2) q0 q3 hE.2.1 kk
theorem s_hold {l : Launch} {ν : am_N} {Q : Option am_V → am_N → Prop} (i j : Int) (ci : am_c i = i) (cj : am_c j = j) (hS : sx ν ν) (hw : fp_fw 999 (fv ν 1)) (k : ∀ μ' : am_N, sx ν μ' → Q (some (.inl (fp_hor (fv ν 1) i j))) μ') : am_Does l 99 [.inr (.inr 0), .inl i, .inl j] ν Q := by
  refine am_Does_of (Nat.le_of_ble_eq_true rfl) (Nat.le_of_ble_eq_true rfl) (Nat.le_of_ble_eq_true rfl) ?_
  have l0 : am_c 0 = 0 := rfl
  have l1 : am_c 1 = 1 := rfl
  have l2 : am_c 2 = 2 := rfl
  have l3 : am_c 3 = 3 := rfl
  have l4 : am_c 4 = 4 := rfl
  have m1' : am_c (-1) = -1 := rfl
  have m9' : am_c (-9) = -9 := rfl
  obtain ⟨hf1, -, -, -, -, -, -⟩ := fw_C hw (by decide)
  have f0 := hf1.1.1
  have f1 := hf1.1.2
  have e4 : fv ν 1 0 4 = ν 1 4 := fv_0 (by decide)
  have hE0 : fp_HW ν ν := ⟨fun _ _ _ _ _ => rfl, hS.2.1, hS.2.2.2.1.2.1, hS.2.2.2.1.2.2.1⟩
  have sE := fun (μ : am_N) (h : fp_HW ν μ) => sx_rk hS (fun a b q1 q2 q3 _ => h.1 a b q1 q2 q3) h.2.2.1 h.2.2.2 h.2.1
  have kk := fun (x : Int) (μ' : am_N) (h : sx ν μ') (e : x = fp_hor (fv ν 1) i j) => am_qe (k μ' h) e
  have lp17 : ∀ (m : Nat) (q : Int) (o4 o5 o6 : Option am_V) (μ : am_N) , fp_HW ν μ → 0 ≤ q → q ≤ 4 → fp_hs (fv ν 1) i.toNat j.toNat (4 - q).toNat q = fp_hs (fv ν 1) i.toNat j.toNat 4 0 → (0 ≤ i ∧ i < ν 1 4) → (0 ≤ j ∧ j < ν 1 4) → i ≠ j → 4 - q < (m : Int) → am_AW l 0 (fun _ => 0) 99 Q 17 [some (.inr (.inr 0)), some (.inl i), some (.inl j), some (.inl q), o4, o5, o6] [] μ := by
    intro m
    induction m with
    | zero =>
      intro q o4 o5 o6 μ hv0 hv1 hv2 hv3 hv4 hv5 hv6 hm
      exfalso
      omega
    | succ m ih =>
      intro q o4 o5 o6 μ hv0 hv1 hv2 hv3 hv4 hv5 hv6 hm
      have cq : am_c q = q := am_cR (by omega) (by omega)
      have x4 := fun z : q ≤ 3 => fp_x4 hv1 z
      have w0 := fp_how_b (fv ν 1) i.toNat j.toNat q
      have w1 := fp_how_b (fv ν 1) i.toNat j.toNat (am_xor q 1)
      have w2 := fp_how_b (fv ν 1) i.toNat j.toNat (am_xor q 2)
      have c0 : am_c (fp_how (fv ν 1) i.toNat j.toNat q) = fp_how (fv ν 1) i.toNat j.toNat q := am_cR (by omega) (by omega)
      have c1 : am_c (fp_how (fv ν 1) i.toNat j.toNat (am_xor q 1)) = fp_how (fv ν 1) i.toNat j.toNat (am_xor q 1) := am_cR (by omega) (by omega)
      have c2 : am_c (fp_how (fv ν 1) i.toNat j.toNat (am_xor q 2)) = fp_how (fv ν 1) i.toNat j.toNat (am_xor q 2) := am_cR (by omega) (by omega)
      have eR : fp_hor (fv ν 1) i j = fp_hs (fv ν 1) i.toNat j.toNat 4 0 := by unfold fp_hor; rw [e4, if_neg (by omega)]
      refine am_go (ct := fun pc => Nat.beq pc 17) am_oX6_hold 300 ?_
      conv => whnf
      repeat' first
        | (refine (?_ : am_wp _ _ _ _ _ _ _ _ _ _ _ _); conv => whnf)
        | (refine (?_ : am_sw _ _ _ _); conv => whnf)
        | refine And.intro trivial ?_
        | exact trivial
        | (refine (?_ : fp_HW _ _); (first | decide | assumption | omega | (rw [← hv3, fp_hs_s hv1 q3, if_neg (by (simp only [c0, c1, c2] at *; first | done | omega))]) | (rw [eR, ← hv3, fp_hs_s hv1 q3, if_pos (by (simp only [c0, c1, c2] at *; first | done | omega))]) | (rw [eR, ← hv3, show (4 - q).toNat = 0 by (simp only [cq, l4] at *; first | done | omega)]; rfl) | (exfalso; (simp only [c0, c1, c2, cq, l0, l1, l4] at *; first | done | omega)) | (trace_state; fail)))
        | (have q3 : q ≤ 3 := (by (simp only [cq, l4] at *; first | done | omega)); (first | have x4 := x4 q3 | skip); (refine s_hworth i j q ci cj hv0 hw hv6 hv4 hv5 hv1 q3 (fun μ2 hE2 => ?_)))
        | (refine s_hworth i j (am_xor q 2) ci cj hE2 hw hv6 hv4 hv5 x4.2.1 x4.2.2 (fun μ3 hE3 => ?_))
        | (refine s_hworth i j (am_xor q 1) ci cj hE3 hw hv6 hv4 hv5 x4.1.1 x4.1.2 (fun μ4 hE4 => ?_))
        | (refine kk _ _ (sE _ hE4) ?_)
        | (refine kk _ _ (sE _ hv0) ?_)
        | refine x_notTwo _ _ ci cj f0 f1 (fun y => ?_) (fun y0 y1 y2 => ?_)
        | refine x_refuse _ ?_ (fun μr fr => ?_)
        | refine kk _ _ (sx_78 hS fr) ?_
        | refine ih _ _ _ _ _ ?_ ?_ ?_ ?_ ?_ ?_ ?_ ?_
        | refine And.intro (fun h => absurd h (by decide)) (fun _ => ?_)
        | refine And.intro (fun _ => ?_) (fun h => absurd (by decide) h)
        | refine And.intro (fun _ => ?_) (fun _ => ?_)
        | refine And.intro ?_ ?_
      all_goals (first | decide | assumption | omega | (rw [← hv3, fp_hs_s hv1 q3, if_neg (by (simp only [c0, c1, c2] at *; first | done | omega))]) | (rw [eR, ← hv3, fp_hs_s hv1 q3, if_pos (by (simp only [c0, c1, c2] at *; first | done | omega))]) | (rw [eR, ← hv3, show (4 - q).toNat = 0 by (simp only [cq, l4] at *; first | done | omega)]; rfl) | (exfalso; (simp only [c0, c1, c2, cq, l0, l1, l4] at *; first | done | omega)) | (trace_state; fail))
  have lp17' : ∀ (q : Int) (o4 o5 o6 : Option am_V) (μ : am_N) , fp_HW ν μ → 0 ≤ q → q ≤ 4 → fp_hs (fv ν 1) i.toNat j.toNat (4 - q).toNat q = fp_hs (fv ν 1) i.toNat j.toNat 4 0 → (0 ≤ i ∧ i < ν 1 4) → (0 ≤ j ∧ j < ν 1 4) → i ≠ j → am_AW l 0 (fun _ => 0) 99 Q 17 [some (.inr (.inr 0)), some (.inl i), some (.inl j), some (.inl q), o4, o5, o6] [] μ := fun q o4 o5 o6 μ hv0 hv1 hv2 hv3 hv4 hv5 hv6 => lp17 ((4 - q) + 1).toNat q o4 o5 o6 μ hv0 hv1 hv2 hv3 hv4 hv5 hv6 (by omega)
  refine am_go (ct := fun pc => Nat.beq pc 17) am_oX6_hold 300 ?_
  conv => whnf
  repeat' first
    | (refine (?_ : am_wp _ _ _ _ _ _ _ _ _ _ _ _); conv => whnf)
    | (refine (?_ : am_sw _ _ _ _); conv => whnf)
    | refine And.intro trivial ?_
    | exact trivial
    | (refine (?_ : fp_HW _ _); (first | decide | assumption | omega | rfl | (unfold fp_hor; rw [e4, if_pos (by omega)]) | (trace_state; fail)))
    | refine x_notTwo _ _ ci cj f0 f1 (fun y => ?_) (fun y0 y1 y2 => ?_)
    | refine x_refuse _ ?_ (fun μr fr => ?_)
    | refine kk _ _ (sx_78 hS fr) ?_
    | refine lp17' _ _ _ _ _ ?_ ?_ ?_ ?_ ?_ ?_ ?_
    | refine And.intro (fun h => absurd h (by decide)) (fun _ => ?_)
    | refine And.intro (fun _ => ?_) (fun h => absurd (by decide) h)
    | refine And.intro (fun _ => ?_) (fun _ => ?_)
    | refine And.intro ?_ ?_
  all_goals (first | decide | assumption | omega | rfl | (unfold fp_hor; rw [e4, if_pos (by omega)]) | (trace_state; fail))
theorem fp_hp0 {f g : Nat} (y : Int) (s : Nat → Int) (h : f ≠ g) : ∀ b : Nat, s b = if b = f then fp_hA 0 y (s f) else if b = g then fp_hB 0 y (s g) else s b := fun b => by
  by_cases d : b = f
  · subst d
    rw [if_pos rfl]
    rfl
  · rw [if_neg d]
    by_cases d2 : b = g
    · subst d2
      rw [if_pos rfl]
      rfl
    · rw [if_neg d2]
      
theorem fp_hp1 {f g : Nat} (y : Int) (s : Nat → Int) (h : f ≠ g) : ∀ b : Nat, (am_pt s f (am_hd (s f - y))) b = if b = f then fp_hA 1 y (s f) else if b = g then fp_hB 1 y (s g) else s b := fun b => by
  by_cases d : b = f
  · subst d
    rw [if_pos rfl]
    exact if_pos rfl
  · rw [if_neg d]
    by_cases d2 : b = g
    · subst d2
      rw [if_pos rfl]
      exact if_neg d
    · rw [if_neg d2]
      exact if_neg d
theorem fp_hp2 {f g : Nat} (y : Int) (s : Nat → Int) (h : f ≠ g) : ∀ b : Nat, (am_pt s g (am_hd (s g + y))) b = if b = f then fp_hA 2 y (s f) else if b = g then fp_hB 2 y (s g) else s b := fun b => by
  by_cases d : b = f
  · subst d
    rw [if_pos rfl]
    exact if_neg h
  · rw [if_neg d]
    by_cases d2 : b = g
    · subst d2
      rw [if_pos rfl]
      exact if_pos rfl
    · rw [if_neg d2]
      exact if_neg d2
theorem fp_hp3 {f g : Nat} (y : Int) (s : Nat → Int) (h : f ≠ g) : ∀ b : Nat, (am_pt (am_pt s f (am_hd (s f - y))) g (am_hd (s g + y))) b = if b = f then fp_hA 3 y (s f) else if b = g then fp_hB 3 y (s g) else s b := fun b => by
  by_cases d : b = f
  · subst d
    rw [if_pos rfl]
    exact (if_neg h).trans (if_pos rfl)
  · rw [if_neg d]
    by_cases d2 : b = g
    · subst d2
      rw [if_pos rfl]
      exact if_pos rfl
    · rw [if_neg d2]
      exact (if_neg d2).trans (if_neg d)
theorem fp_hp4 {f g : Nat} (y : Int) (s : Nat → Int) (h : f ≠ g) : ∀ b : Nat, (am_pt (am_pt s f (am_hd (s f - y))) g (am_hd (s g + 1))) b = if b = f then fp_hA 4 y (s f) else if b = g then fp_hB 4 y (s g) else s b := fun b => by
  by_cases d : b = f
  · subst d
    rw [if_pos rfl]
    exact (if_neg h).trans (if_pos rfl)
  · rw [if_neg d]
    by_cases d2 : b = g
    · subst d2
      rw [if_pos rfl]
      exact if_pos rfl
    · rw [if_neg d2]
      exact (if_neg d2).trans (if_neg d)
theorem mv_hg {ν M : am_N} {f l : Nat} (hf : f < 4) (hl : l < 4) (h5 : ∀ b : Nat, b < 4 → M 89 b = if b = f then fp_hA (ν 83 12) (ν 83 13) (ν 89 f) else if b = l then fp_hB (ν 83 12) (ν 83 13) (ν 89 l) else ν 89 b) (h1 : M 83 11 = ν 83 11 + 1) (h0 : ∀ b, b ≠ 11 → M 83 b = ν 83 b) (h : ∀ a b, 85 ≤ a → a ≤ 90 → a ≠ 89 → M a b = ν a b) : mv M = fp_hg (mv ν) f l := by
  refine fp_ct_e (fun b hb => ?_) (fun a b q1 q2 hb => ?_)
  · unfold fp_hg0
    rw [if_neg (by decide)]
    by_cases d : b = 1
    · subst d
      rw [if_pos ⟨rfl, rfl⟩]
      exact h1
    · rw [if_neg (fun z => d z.2), mv_0 hb]
      exact h0 (10 + b) (by omega)
  · unfold fp_hg0
    by_cases d5 : a = 5
    · subst d5
      rw [if_pos rfl, mv_r, mv_y, mv_5 hf, mv_5 hl, mv_5 hb]
      exact h5 b hb
    · obtain ⟨a, rfl⟩ : ∃ e, a = e + 1 := ⟨a - 1, by omega⟩
      rw [if_neg d5, if_neg (by omega), mv_a (by omega) hb]
      exact h (85 + a) b (by omega) (by omega) (by omega)
theorem n_aheadOfG {l : Launch} {ν M : am_N} {Q : Option am_V → am_N → Prop} (i j : Int) (f g : Nat) (hw : fp_fw 999 (mv ν)) (hi : 0 ≤ i ∧ i < ν 83 14) (hj : 0 ≤ j ∧ j < ν 83 14) (hf : f < 4) (hg : g < 4) (h5 : ∀ b : Nat, b < 4 → M 89 b = if b = f then fp_hA (ν 83 12) (ν 83 13) (ν 89 f) else if b = g then fp_hB (ν 83 12) (ν 83 13) (ν 89 g) else ν 89 b) (h1 : M 83 11 = ν 83 11 + 1) (h0 : ∀ b, b ≠ 11 → M 83 b = ν 83 b) (h : ∀ a b, 85 ≤ a → a ≤ 90 → a ≠ 89 → M a b = ν a b) (k : Q (some (.inl (fp_ah (fp_hg (mv ν) f g) i.toNat j.toNat))) M) : am_Does l 194 [.inr (.inr 83), .inl i, .inl j] M Q := by
  have eM : mv M = fp_hg (mv ν) f g := mv_hg hf hg h5 h1 h0 h
  have e14 : M 83 14 = ν 83 14 := h0 14 (by decide)
  refine n_aheadOfW (W := 1000) i j (by decide) (by rw [eM]; exact fw_hg hw) (by rw [e14]; exact hi) (by rw [e14]; exact hj) ?_
  rw [eM]
  exact k
theorem n_wp0 {l : Launch} {ν : am_N} {Q : Option am_V → am_N → Prop} (i j q x y w f g : Int) (o7 : Option am_V) (cf : am_c f = f) (cg : am_c g = g) (hw : fp_fw 999 (mv ν)) (hi : 0 ≤ i ∧ i < ν 83 14) (hj : 0 ≤ j ∧ j < ν 83 14) (hf : 0 ≤ f ∧ f < ν 83 14) (hg : 0 ≤ g ∧ g < ν 83 14) (hfg : f ≠ g) (er : ν 83 12 = 0) (k : Q (some (.inl (w + fp_ah (fp_hg (mv ν) f.toNat g.toNat) i.toNat j.toNat))) ν) : am_AW l 0 (fun _ => 0) 225 Q 110 [some (.inr (.inr 83)), some (.inl i), some (.inl j), some (.inl q), some (.inl x), some (.inl y), some (.inl w), o7, some (.inl f), some (.inl g), none, none] [] ν := by
  have l0 : am_c 0 = 0 := rfl
  have l1 : am_c 1 = 1 := rfl
  have l2 : am_c 2 = 2 := rfl
  have l3 : am_c 3 = 3 := rfl
  have l4 : am_c 4 = 4 := rfl
  obtain ⟨hf1, -, hyd, hst, -, -, -⟩ := fw_M hw (by decide)
  have n14 := hf1.1
  have crl : am_c (ν 83 12) = 0 := by rw [er]; rfl
  have ef : (am_c f).toNat = f.toNat := by rw [cf]
  have eg : (am_c g).toNat = g.toNat := by rw [cg]
  have bf := hst f.toNat (by omega)
  have bg := hst g.toNat (by omega)
  have hne : f.toNat ≠ g.toNat := by omega
  refine am_go (ct := fun _ => false) am_oX7_worthOfPair 300 ?_
  conv => whnf
  repeat' first
    | (refine (?_ : am_wp _ _ _ _ _ _ _ _ _ _ _ _); conv => whnf)
    | (refine (?_ : am_sw _ _ _ _); conv => whnf)
    | refine And.intro trivial ?_
    | exact trivial
    | (refine x_held _ ?_ ?_ ?_)
    | (refine n_aheadOfG (ν := ν) i j f.toNat g.toNat hw hi hj (by omega) (by omega) ?_ ?_ ?_ ?_ ?_)
    | (refine am_qm k ?_)
    | refine And.intro (fun z => absurd z (by rw [crl]; decide)) (fun _ => ?_)
    | refine And.intro (fun _ => ?_) (fun z => absurd z (by rw [crl]; decide))
    | refine And.intro (fun z => absurd z (by rw [am_upN (by decide), crl]; decide)) (fun _ => ?_)
    | refine And.intro (fun _ => ?_) (fun z => absurd z (by rw [am_upN (by decide), crl]; decide))
    | refine And.intro (fun h => absurd h (by decide)) (fun _ => ?_)
    | refine And.intro (fun _ => ?_) (fun h => absurd (by decide) h)
    | refine And.intro (fun _ => ?_) (fun _ => ?_)
    | refine And.intro ?_ ?_
  all_goals (first | decide | omega | rfl | (simp only [ef, eg]; omega) | (rw [am_upN (by decide)]; simp only [ef, eg]; omega) | (rw [cf]; omega) | (rw [cg]; omega) | (intro b hb; rw [am_upN (by decide), er]; (try simp only [ef, eg]); exact fp_hp0 _ _ hne b) | (intro b hb; rw [am_upM hb]; rfl) | (intro b hb; rw [am_upM hb]; repeat rw [am_upN (by decide)]) | (intro a b q1 q2 q3; rw [am_upN (by omega)]; repeat rw [am_upN (by omega)]) | (simp only [ef, eg]; funext a; funext b; by_cases d1 : a = 89 ∧ b = g.toNat; (rw [am_upS, if_pos d1, d1.1, d1.2]); by_cases d2 : a = 89 ∧ b = f.toNat; (rw [am_uE d1, am_upS, if_pos d2, d2.1, d2.2]); by_cases d3 : a = 83 ∧ b = 11; (rw [am_uE d1, am_uE d2, am_upS, if_pos d3, d3.1, d3.2]; show (ν 83 11 + 1) - 1 = ν 83 11; omega); (rw [am_uE d1, am_uE d2, am_uE d3, am_uE d3]; repeat rw [am_uE (by first | exact d1 | exact d2)])) | (trace_state; fail))
theorem n_wp1 {l : Launch} {ν : am_N} {Q : Option am_V → am_N → Prop} (i j q x y w f g : Int) (o7 : Option am_V) (cf : am_c f = f) (cg : am_c g = g) (hw : fp_fw 999 (mv ν)) (hi : 0 ≤ i ∧ i < ν 83 14) (hj : 0 ≤ j ∧ j < ν 83 14) (hf : 0 ≤ f ∧ f < ν 83 14) (hg : 0 ≤ g ∧ g < ν 83 14) (hfg : f ≠ g) (er : ν 83 12 = 1) (k : Q (some (.inl (w + fp_ah (fp_hg (mv ν) f.toNat g.toNat) i.toNat j.toNat))) ν) : am_AW l 0 (fun _ => 0) 225 Q 110 [some (.inr (.inr 83)), some (.inl i), some (.inl j), some (.inl q), some (.inl x), some (.inl y), some (.inl w), o7, some (.inl f), some (.inl g), none, none] [] ν := by
  have l0 : am_c 0 = 0 := rfl
  have l1 : am_c 1 = 1 := rfl
  have l2 : am_c 2 = 2 := rfl
  have l3 : am_c 3 = 3 := rfl
  have l4 : am_c 4 = 4 := rfl
  obtain ⟨hf1, -, hyd, hst, -, -, -⟩ := fw_M hw (by decide)
  have n14 := hf1.1
  have crl : am_c (ν 83 12) = 1 := by rw [er]; rfl
  have ef : (am_c f).toNat = f.toNat := by rw [cf]
  have eg : (am_c g).toNat = g.toNat := by rw [cg]
  have bf := hst f.toNat (by omega)
  have bg := hst g.toNat (by omega)
  have hne : f.toNat ≠ g.toNat := by omega
  refine am_go (ct := fun _ => false) am_oX7_worthOfPair 300 ?_
  conv => whnf
  repeat' first
    | (refine (?_ : am_wp _ _ _ _ _ _ _ _ _ _ _ _); conv => whnf)
    | (refine (?_ : am_sw _ _ _ _); conv => whnf)
    | refine And.intro trivial ?_
    | exact trivial
    | (refine x_held _ ?_ ?_ ?_)
    | (refine n_aheadOfG (ν := ν) i j f.toNat g.toNat hw hi hj (by omega) (by omega) ?_ ?_ ?_ ?_ ?_)
    | (refine am_qm k ?_)
    | refine And.intro (fun z => absurd z (by rw [crl]; decide)) (fun _ => ?_)
    | refine And.intro (fun _ => ?_) (fun z => absurd z (by rw [crl]; decide))
    | refine And.intro (fun z => absurd z (by rw [am_upN (by decide), crl]; decide)) (fun _ => ?_)
    | refine And.intro (fun _ => ?_) (fun z => absurd z (by rw [am_upN (by decide), crl]; decide))
    | refine And.intro (fun h => absurd h (by decide)) (fun _ => ?_)
    | refine And.intro (fun _ => ?_) (fun h => absurd (by decide) h)
    | refine And.intro (fun _ => ?_) (fun _ => ?_)
    | refine And.intro ?_ ?_
  all_goals (first | decide | omega | rfl | (simp only [ef, eg]; omega) | (rw [am_upN (by decide)]; simp only [ef, eg]; omega) | (rw [cf]; omega) | (rw [cg]; omega) | (intro b hb; rw [am_upN (by decide), am_pt_up, er]; (try simp only [ef, eg]); exact fp_hp1 _ _ hne b) | (intro b hb; rw [am_upM hb]; rfl) | (intro b hb; rw [am_upM hb]; repeat rw [am_upN (by decide)]) | (intro a b q1 q2 q3; rw [am_upN (by omega)]; repeat rw [am_upN (by omega)]) | (simp only [ef, eg]; funext a; funext b; by_cases d1 : a = 89 ∧ b = g.toNat; (rw [am_upS, if_pos d1, d1.1, d1.2]); by_cases d2 : a = 89 ∧ b = f.toNat; (rw [am_uE d1, am_upS, if_pos d2, d2.1, d2.2]); by_cases d3 : a = 83 ∧ b = 11; (rw [am_uE d1, am_uE d2, am_upS, if_pos d3, d3.1, d3.2]; show (ν 83 11 + 1) - 1 = ν 83 11; omega); (rw [am_uE d1, am_uE d2, am_uE d3, am_uE d3]; repeat rw [am_uE (by first | exact d1 | exact d2)])) | (trace_state; fail))
theorem n_wp2 {l : Launch} {ν : am_N} {Q : Option am_V → am_N → Prop} (i j q x y w f g : Int) (o7 : Option am_V) (cf : am_c f = f) (cg : am_c g = g) (hw : fp_fw 999 (mv ν)) (hi : 0 ≤ i ∧ i < ν 83 14) (hj : 0 ≤ j ∧ j < ν 83 14) (hf : 0 ≤ f ∧ f < ν 83 14) (hg : 0 ≤ g ∧ g < ν 83 14) (hfg : f ≠ g) (er : ν 83 12 = 2) (k : Q (some (.inl (w + fp_ah (fp_hg (mv ν) f.toNat g.toNat) i.toNat j.toNat))) ν) : am_AW l 0 (fun _ => 0) 225 Q 110 [some (.inr (.inr 83)), some (.inl i), some (.inl j), some (.inl q), some (.inl x), some (.inl y), some (.inl w), o7, some (.inl f), some (.inl g), none, none] [] ν := by
  have l0 : am_c 0 = 0 := rfl
  have l1 : am_c 1 = 1 := rfl
  have l2 : am_c 2 = 2 := rfl
  have l3 : am_c 3 = 3 := rfl
  have l4 : am_c 4 = 4 := rfl
  obtain ⟨hf1, -, hyd, hst, -, -, -⟩ := fw_M hw (by decide)
  have n14 := hf1.1
  have crl : am_c (ν 83 12) = 2 := by rw [er]; rfl
  have ef : (am_c f).toNat = f.toNat := by rw [cf]
  have eg : (am_c g).toNat = g.toNat := by rw [cg]
  have bf := hst f.toNat (by omega)
  have bg := hst g.toNat (by omega)
  have hne : f.toNat ≠ g.toNat := by omega
  refine am_go (ct := fun _ => false) am_oX7_worthOfPair 300 ?_
  conv => whnf
  repeat' first
    | (refine (?_ : am_wp _ _ _ _ _ _ _ _ _ _ _ _); conv => whnf)
    | (refine (?_ : am_sw _ _ _ _); conv => whnf)
    | refine And.intro trivial ?_
    | exact trivial
    | (refine x_held _ ?_ ?_ ?_)
    | (refine n_aheadOfG (ν := ν) i j f.toNat g.toNat hw hi hj (by omega) (by omega) ?_ ?_ ?_ ?_ ?_)
    | (refine am_qm k ?_)
    | refine And.intro (fun z => absurd z (by rw [crl]; decide)) (fun _ => ?_)
    | refine And.intro (fun _ => ?_) (fun z => absurd z (by rw [crl]; decide))
    | refine And.intro (fun z => absurd z (by rw [am_upN (by decide), crl]; decide)) (fun _ => ?_)
    | refine And.intro (fun _ => ?_) (fun z => absurd z (by rw [am_upN (by decide), crl]; decide))
    | refine And.intro (fun h => absurd h (by decide)) (fun _ => ?_)
    | refine And.intro (fun _ => ?_) (fun h => absurd (by decide) h)
    | refine And.intro (fun _ => ?_) (fun _ => ?_)
    | refine And.intro ?_ ?_
  all_goals (first | decide | omega | rfl | (simp only [ef, eg]; omega) | (rw [am_upN (by decide)]; simp only [ef, eg]; omega) | (rw [cf]; omega) | (rw [cg]; omega) | (intro b hb; rw [am_upN (by decide), am_pt_up, er]; (try simp only [ef, eg]); exact fp_hp2 _ _ hne b) | (intro b hb; rw [am_upM hb]; rfl) | (intro b hb; rw [am_upM hb]; repeat rw [am_upN (by decide)]) | (intro a b q1 q2 q3; rw [am_upN (by omega)]; repeat rw [am_upN (by omega)]) | (simp only [ef, eg]; funext a; funext b; by_cases d1 : a = 89 ∧ b = g.toNat; (rw [am_upS, if_pos d1, d1.1, d1.2]); by_cases d2 : a = 89 ∧ b = f.toNat; (rw [am_uE d1, am_upS, if_pos d2, d2.1, d2.2]); by_cases d3 : a = 83 ∧ b = 11; (rw [am_uE d1, am_uE d2, am_upS, if_pos d3, d3.1, d3.2]; show (ν 83 11 + 1) - 1 = ν 83 11; omega); (rw [am_uE d1, am_uE d2, am_uE d3, am_uE d3]; repeat rw [am_uE (by first | exact d1 | exact d2)])) | (trace_state; fail))
theorem n_wp3 {l : Launch} {ν : am_N} {Q : Option am_V → am_N → Prop} (i j q x y w f g : Int) (o7 : Option am_V) (cf : am_c f = f) (cg : am_c g = g) (hw : fp_fw 999 (mv ν)) (hi : 0 ≤ i ∧ i < ν 83 14) (hj : 0 ≤ j ∧ j < ν 83 14) (hf : 0 ≤ f ∧ f < ν 83 14) (hg : 0 ≤ g ∧ g < ν 83 14) (hfg : f ≠ g) (er : ν 83 12 = 3) (k : Q (some (.inl (w + fp_ah (fp_hg (mv ν) f.toNat g.toNat) i.toNat j.toNat))) ν) : am_AW l 0 (fun _ => 0) 225 Q 110 [some (.inr (.inr 83)), some (.inl i), some (.inl j), some (.inl q), some (.inl x), some (.inl y), some (.inl w), o7, some (.inl f), some (.inl g), none, none] [] ν := by
  have l0 : am_c 0 = 0 := rfl
  have l1 : am_c 1 = 1 := rfl
  have l2 : am_c 2 = 2 := rfl
  have l3 : am_c 3 = 3 := rfl
  have l4 : am_c 4 = 4 := rfl
  obtain ⟨hf1, -, hyd, hst, -, -, -⟩ := fw_M hw (by decide)
  have n14 := hf1.1
  have crl : am_c (ν 83 12) = 3 := by rw [er]; rfl
  have ef : (am_c f).toNat = f.toNat := by rw [cf]
  have eg : (am_c g).toNat = g.toNat := by rw [cg]
  have bf := hst f.toNat (by omega)
  have bg := hst g.toNat (by omega)
  have hne : f.toNat ≠ g.toNat := by omega
  refine am_go (ct := fun _ => false) am_oX7_worthOfPair 300 ?_
  conv => whnf
  repeat' first
    | (refine (?_ : am_wp _ _ _ _ _ _ _ _ _ _ _ _); conv => whnf)
    | (refine (?_ : am_sw _ _ _ _); conv => whnf)
    | refine And.intro trivial ?_
    | exact trivial
    | (refine x_held _ ?_ ?_ ?_)
    | (refine n_aheadOfG (ν := ν) i j f.toNat g.toNat hw hi hj (by omega) (by omega) ?_ ?_ ?_ ?_ ?_)
    | (refine am_qm k ?_)
    | refine And.intro (fun z => absurd z (by rw [crl]; decide)) (fun _ => ?_)
    | refine And.intro (fun _ => ?_) (fun z => absurd z (by rw [crl]; decide))
    | refine And.intro (fun z => absurd z (by rw [am_upN (by decide), crl]; decide)) (fun _ => ?_)
    | refine And.intro (fun _ => ?_) (fun z => absurd z (by rw [am_upN (by decide), crl]; decide))
    | refine And.intro (fun h => absurd h (by decide)) (fun _ => ?_)
    | refine And.intro (fun _ => ?_) (fun h => absurd (by decide) h)
    | refine And.intro (fun _ => ?_) (fun _ => ?_)
    | refine And.intro ?_ ?_
  all_goals (first | decide | omega | rfl | (simp only [ef, eg]; omega) | (rw [am_upN (by decide)]; simp only [ef, eg]; omega) | (rw [cf]; omega) | (rw [cg]; omega) | (intro b hb; rw [am_upN (by decide), am_pt_up, am_pt_up, er]; (try simp only [ef, eg]); exact fp_hp3 _ _ hne b) | (intro b hb; rw [am_upM hb]; rfl) | (intro b hb; rw [am_upM hb]; repeat rw [am_upN (by decide)]) | (intro a b q1 q2 q3; rw [am_upN (by omega)]; repeat rw [am_upN (by omega)]) | (simp only [ef, eg]; funext a; funext b; by_cases d1 : a = 89 ∧ b = g.toNat; (rw [am_upS, if_pos d1, d1.1, d1.2]); by_cases d2 : a = 89 ∧ b = f.toNat; (rw [am_uE d1, am_upS, if_pos d2, d2.1, d2.2]); by_cases d3 : a = 83 ∧ b = 11; (rw [am_uE d1, am_uE d2, am_upS, if_pos d3, d3.1, d3.2]; show (ν 83 11 + 1) - 1 = ν 83 11; omega); (rw [am_uE d1, am_uE d2, am_uE d3, am_uE d3]; repeat rw [am_uE (by first | exact d1 | exact d2)])) | (trace_state; fail))
theorem n_wp4 {l : Launch} {ν : am_N} {Q : Option am_V → am_N → Prop} (i j q x y w f g : Int) (o7 : Option am_V) (cf : am_c f = f) (cg : am_c g = g) (hw : fp_fw 999 (mv ν)) (hi : 0 ≤ i ∧ i < ν 83 14) (hj : 0 ≤ j ∧ j < ν 83 14) (hf : 0 ≤ f ∧ f < ν 83 14) (hg : 0 ≤ g ∧ g < ν 83 14) (hfg : f ≠ g) (er : ν 83 12 = 4) (k : Q (some (.inl (w + fp_ah (fp_hg (mv ν) f.toNat g.toNat) i.toNat j.toNat))) ν) : am_AW l 0 (fun _ => 0) 225 Q 110 [some (.inr (.inr 83)), some (.inl i), some (.inl j), some (.inl q), some (.inl x), some (.inl y), some (.inl w), o7, some (.inl f), some (.inl g), none, none] [] ν := by
  have l0 : am_c 0 = 0 := rfl
  have l1 : am_c 1 = 1 := rfl
  have l2 : am_c 2 = 2 := rfl
  have l3 : am_c 3 = 3 := rfl
  have l4 : am_c 4 = 4 := rfl
  obtain ⟨hf1, -, hyd, hst, -, -, -⟩ := fw_M hw (by decide)
  have n14 := hf1.1
  have crl : am_c (ν 83 12) = 4 := by rw [er]; rfl
  have ef : (am_c f).toNat = f.toNat := by rw [cf]
  have eg : (am_c g).toNat = g.toNat := by rw [cg]
  have bf := hst f.toNat (by omega)
  have bg := hst g.toNat (by omega)
  have hne : f.toNat ≠ g.toNat := by omega
  refine am_go (ct := fun _ => false) am_oX7_worthOfPair 300 ?_
  conv => whnf
  repeat' first
    | (refine (?_ : am_wp _ _ _ _ _ _ _ _ _ _ _ _); conv => whnf)
    | (refine (?_ : am_sw _ _ _ _); conv => whnf)
    | refine And.intro trivial ?_
    | exact trivial
    | (refine x_held _ ?_ ?_ ?_)
    | (refine n_aheadOfG (ν := ν) i j f.toNat g.toNat hw hi hj (by omega) (by omega) ?_ ?_ ?_ ?_ ?_)
    | (refine am_qm k ?_)
    | refine And.intro (fun z => absurd z (by rw [crl]; decide)) (fun _ => ?_)
    | refine And.intro (fun _ => ?_) (fun z => absurd z (by rw [crl]; decide))
    | refine And.intro (fun z => absurd z (by rw [am_upN (by decide), crl]; decide)) (fun _ => ?_)
    | refine And.intro (fun _ => ?_) (fun z => absurd z (by rw [am_upN (by decide), crl]; decide))
    | refine And.intro (fun h => absurd h (by decide)) (fun _ => ?_)
    | refine And.intro (fun _ => ?_) (fun h => absurd (by decide) h)
    | refine And.intro (fun _ => ?_) (fun _ => ?_)
    | refine And.intro ?_ ?_
  all_goals (first | decide | omega | rfl | (simp only [ef, eg]; omega) | (rw [am_upN (by decide)]; simp only [ef, eg]; omega) | (rw [cf]; omega) | (rw [cg]; omega) | (intro b hb; rw [am_upN (by decide), am_pt_up, am_pt_up, er]; (try simp only [ef, eg]); exact fp_hp4 _ _ hne b) | (intro b hb; rw [am_upM hb]; rfl) | (intro b hb; rw [am_upM hb]; repeat rw [am_upN (by decide)]) | (intro a b q1 q2 q3; rw [am_upN (by omega)]; repeat rw [am_upN (by omega)]) | (simp only [ef, eg]; funext a; funext b; by_cases d1 : a = 89 ∧ b = g.toNat; (rw [am_upS, if_pos d1, d1.1, d1.2]); by_cases d2 : a = 89 ∧ b = f.toNat; (rw [am_uE d1, am_upS, if_pos d2, d2.1, d2.2]); by_cases d3 : a = 83 ∧ b = 11; (rw [am_uE d1, am_uE d2, am_upS, if_pos d3, d3.1, d3.2]; show (ν 83 11 + 1) - 1 = ν 83 11; omega); (rw [am_uE d1, am_uE d2, am_uE d3, am_uE d3]; repeat rw [am_uE (by first | exact d1 | exact d2)])) | (trace_state; fail))
theorem n_wp {l : Launch} {ν : am_N} {Q : Option am_V → am_N → Prop} (i j q x y w f g : Int) (o7 : Option am_V) (cf : am_c f = f) (cg : am_c g = g) (hw : fp_fw 999 (mv ν)) (hi : 0 ≤ i ∧ i < ν 83 14) (hj : 0 ≤ j ∧ j < ν 83 14) (hf : 0 ≤ f ∧ f < ν 83 14) (hg : 0 ≤ g ∧ g < ν 83 14) (hfg : f ≠ g) (k : Q (some (.inl (w + fp_ah (fp_hg (mv ν) f.toNat g.toNat) i.toNat j.toNat))) ν) : am_AW l 0 (fun _ => 0) 225 Q 110 [some (.inr (.inr 83)), some (.inl i), some (.inl j), some (.inl q), some (.inl x), some (.inl y), some (.inl w), o7, some (.inl f), some (.inl g), none, none] [] ν := by
  obtain ⟨-, hr, -, -, -, -, -⟩ := fw_M hw (by decide)
  rcases (show ν 83 12 = 0 ∨ ν 83 12 = 1 ∨ ν 83 12 = 2 ∨ ν 83 12 = 3 ∨ ν 83 12 = 4 by omega) with h | h | h | h | h
  · exact n_wp0 i j q x y w f g o7 cf cg hw hi hj hf hg hfg h k
  · exact n_wp1 i j q x y w f g o7 cf cg hw hi hj hf hg hfg h k
  · exact n_wp2 i j q x y w f g o7 cf cg hw hi hj hf hg hfg h k
  · exact n_wp3 i j q x y w f g o7 cf cg hw hi hj hf hg hfg h k
  · exact n_wp4 i j q x y w f g o7 cf cg hw hi hj hf hg hfg h k
theorem n_worthOfPair {l : Launch} {ν : am_N} {Q : Option am_V → am_N → Prop} (i j q : Int) (ci : am_c i = i) (cj : am_c j = j) (hw : fp_fw 999 (mv ν)) (hi : 0 ≤ i ∧ i < ν 83 14) (hj : 0 ≤ j ∧ j < ν 83 14) (hij : i ≠ j) (q0 : 0 ≤ q) (q3 : q ≤ 3) (k : Q (some (.inl (fp_how (mv ν) i.toNat j.toNat q))) ν) : am_Does l 225 [.inr (.inr 83), .inl i, .inl j, .inl q] ν Q := by
  refine am_Does_of (Nat.le_of_ble_eq_true rfl) (Nat.le_of_ble_eq_true rfl) (Nat.le_of_ble_eq_true rfl) ?_
  have l0 : am_c 0 = 0 := rfl
  have l1 : am_c 1 = 1 := rfl
  have l2 : am_c 2 = 2 := rfl
  have l3 : am_c 3 = 3 := rfl
  have l4 : am_c 4 = 4 := rfl
  obtain ⟨hf1, -, -, -, -, -, hx1⟩ := fw_M hw (by decide)
  have n14 := hf1.1
  have ei : (am_c i).toNat = i.toNat := by rw [ci]
  have ej : (am_c j).toNat = j.toNat := by rw [cj]
  have cq : am_c q = q := am_cR (by omega) (by omega)
  have qt : (am_c q).tmod (am_c 2) = q % 2 := by rw [cq, l2, Int.tmod_eq_emod_of_nonneg q0]
  have cqt : am_c (q % 2) = q % 2 := am_cR (by omega) (by omega)
  have ti := am_TM_b (i := i.toNat) hf1 (by omega)
  have tj := am_TM_b (i := j.toNat) hf1 (by omega)
  have zi := hx1 i.toNat (by omega)
  have zj := hx1 j.toNat (by omega)
  have vT := mv_T (μ := ν) (i := i.toNat) (by omega)
  have vU := mv_T (μ := ν) (i := j.toNat) (by omega)
  have vS : mv ν 4 i.toNat = ν 88 i.toNat := mv_a (a := 3) (by decide) (by omega)
  have vR : mv ν 4 j.toNat = ν 88 j.toNat := mv_a (a := 3) (by decide) (by omega)
  have vG : mv ν 2 i.toNat = ν 86 i.toNat := mv_a (a := 1) (by decide) (by omega)
  have vH : mv ν 2 j.toNat = ν 86 j.toNat := mv_a (a := 1) (by decide) (by omega)
  have xb : 1 ≤ fp_hx (mv ν) i.toNat q ∧ fp_hx (mv ν) i.toNat q ≤ 100000 := by unfold fp_hx; rw [← vT, vG]; split <;> omega
  have yb : 1 ≤ fp_hy (mv ν) j.toNat q ∧ fp_hy (mv ν) j.toNat q ≤ 100000 := by unfold fp_hy; rw [← vU, vH]; split <;> omega
  have lp48 : ∀ (x y : Int), x = fp_hx (mv ν) i.toNat q → y = fp_hy (mv ν) j.toNat q → am_AW l 0 (fun _ => 0) 225 Q 48 [some (.inr (.inr 83)), some (.inl i), some (.inl j), some (.inl q), some (.inl x), some (.inl y), none, none, none, none, none, none] [] ν := by
    intro x y  hv0 hv1
    have hx : 1 ≤ x ∧ x ≤ 100000 := by rw [hv0]; exact xb
    have hy : 1 ≤ y ∧ y ≤ 100000 := by rw [hv1]; exact yb
    have cx : am_c x = x := am_cR (by omega) (by omega)
    have cy : am_c y = y := am_cR (by omega) (by omega)
    have k1 := fun (e : x < y ∨ (x = y ∧ i.toNat < j.toNat)) => am_qe k (show fp_aw (if i.toNat < j.toNat then 0 else 1) x (ν 88 i.toNat) y (ν 88 j.toNat) + fp_ah (fp_hg (mv ν) i.toNat j.toNat) i.toNat j.toNat = fp_how (mv ν) i.toNat j.toNat q by unfold fp_how fp_hov fp_h1; rw [← hv0, ← hv1, vS, vR, if_pos e])
    have k0 := fun (e : ¬(x < y ∨ (x = y ∧ i.toNat < j.toNat))) => am_qe k (show fp_aw (if i.toNat < j.toNat then 0 else 1) x (ν 88 i.toNat) y (ν 88 j.toNat) + fp_ah (fp_hg (mv ν) j.toNat i.toNat) i.toNat j.toNat = fp_how (mv ν) i.toNat j.toNat q by unfold fp_how fp_hov fp_h1; rw [← hv0, ← hv1, vS, vR, if_neg e])
    refine am_go (ct := fun pc => Nat.beq pc 48 || Nat.beq pc 110) am_oX7_worthOfPair 300 ?_
    conv => whnf
    repeat' first
      | (refine (?_ : am_wp _ _ _ _ _ _ _ _ _ _ _ _); conv => whnf)
      | (refine (?_ : am_sw _ _ _ _); conv => whnf)
      | refine And.intro trivial ?_
      | exact trivial
      | (refine x_aheadBy i x j y hi.1 (by omega) hj.1 (by omega) hx.1 hx.2 hy.1 hy.2 zi.2.2.2 zj.2.2.2 ?_)
      | (refine n_wp i j q x y _ i j _ ci cj hw hi hj hi hj hij (k1 (by (simp only [cx, cy, ci, cj] at *; first | done | omega))))
      | (refine n_wp i j q x y _ j i _ cj ci hw hi hj hj hi (fun z => hij z.symm) (k0 (by (simp only [cx, cy, ci, cj] at *; first | done | omega))))
      | refine x_timeOf i hi.1 hi.2 hf1 ?_
      | refine x_timeOf j hj.1 hj.2 hf1 ?_
      | refine And.intro (fun h => absurd h (by decide)) (fun _ => ?_)
      | refine And.intro (fun _ => ?_) (fun h => absurd (by decide) h)
      | refine And.intro (fun _ => ?_) (fun _ => ?_)
      | refine And.intro ?_ ?_
    all_goals (first | decide | assumption | omega | (trace_state; fail))
  refine am_go (ct := fun pc => Nat.beq pc 48 || Nat.beq pc 110) am_oX7_worthOfPair 300 ?_
  conv => whnf
  repeat' first
    | (refine (?_ : am_wp _ _ _ _ _ _ _ _ _ _ _ _); conv => whnf)
    | (refine (?_ : am_sw _ _ _ _); conv => whnf)
    | refine And.intro trivial ?_
    | exact trivial
    | refine x_timeOf i hi.1 hi.2 hf1 ?_
    | refine x_timeOf j hj.1 hj.2 hf1 ?_
    | refine lp48 _ _  ?_ ?_
    | refine And.intro (fun h => absurd h (by decide)) (fun _ => ?_)
    | refine And.intro (fun _ => ?_) (fun h => absurd (by decide) h)
    | refine And.intro (fun _ => ?_) (fun _ => ?_)
    | refine And.intro ?_ ?_
  all_goals (first | decide | assumption | omega | rfl | (rw [ci]; omega) | (rw [cj]; omega) | (unfold fp_hx; rw [← vT, vG]; simp only [ei] at *; first | (rw [if_pos (by (simp only [cq, l1] at *; first | done | omega))]) | (rw [if_neg (by (simp only [cq, l1] at *; first | done | omega))])) | (unfold fp_hy; rw [← vU, vH]; simp only [ej] at *; first | (rw [if_pos (by (simp only [qt, cqt, l1] at *; first | done | omega))]) | (rw [if_neg (by (simp only [qt, cqt, l1] at *; first | done | omega))])) | (trace_state; fail))
theorem n_hold {l : Launch} {ν : am_N} {Q : Option am_V → am_N → Prop} (i j : Int) (ci : am_c i = i) (cj : am_c j = j) (hm : mi ν) (hw : fp_fw 999 (mv ν)) (k : ∀ μ' : am_N, gm ms ν μ' → Q (some (.inl (fp_hor (mv ν) i j))) μ') : am_Does l 226 [.inr (.inr 83), .inl i, .inl j] ν Q := by
  refine am_Does_of (Nat.le_of_ble_eq_true rfl) (Nat.le_of_ble_eq_true rfl) (Nat.le_of_ble_eq_true rfl) ?_
  have l0 : am_c 0 = 0 := rfl
  have l1 : am_c 1 = 1 := rfl
  have l2 : am_c 2 = 2 := rfl
  have l3 : am_c 3 = 3 := rfl
  have l4 : am_c 4 = 4 := rfl
  have m1' : am_c (-1) = -1 := rfl
  have m9' : am_c (-9) = -9 := rfl
  have hm0 := hm
  obtain ⟨hf1, -, -, -, -, -, -⟩ := fw_M hw (by decide)
  have f0 := hf1.1.1
  have f1 := hf1.1.2
  have e4 : mv ν 0 4 = ν 83 14 := rfl
  have kk := fun (x : Int) (μ' : am_N) (h : gm ms ν μ') (e : x = fp_hor (mv ν) i j) => am_qe (k μ' h) e
  have lp45 : ∀ (q x : Int) (o5 : Option am_V), 0 ≤ q → q ≤ 3 → fp_hs (mv ν) i.toNat j.toNat (4 - q).toNat q = fp_hs (mv ν) i.toNat j.toNat 4 0 → (0 ≤ i ∧ i < ν 83 14) → (0 ≤ j ∧ j < ν 83 14) → i ≠ j → x = fp_how (mv ν) i.toNat j.toNat q → fp_how (mv ν) i.toNat j.toNat (am_xor q 2) ≤ fp_how (mv ν) i.toNat j.toNat q → (fp_hs (mv ν) i.toNat j.toNat (4 - (q + 1)).toNat (q + 1) = fp_hs (mv ν) i.toNat j.toNat 4 0 → ∀ (o4 o5 : Option am_V), am_AW l 0 (fun _ => 0) 226 Q 17 [some (.inr (.inr 83)), some (.inl i), some (.inl j), some (.inl (q + 1)), o4, o5] [] ν) → am_AW l 0 (fun _ => 0) 226 Q 45 [some (.inr (.inr 83)), some (.inl i), some (.inl j), some (.inl q), some (.inl x), o5] [] ν := by
    intro q x o5  hv0 hv1 hv2 hv3 hv4 hv5 hv6 hv7 hv8
    have cq : am_c q = q := am_cR (by omega) (by omega)
    have x4 := fp_x4 hv0 hv1
    have w0 := fp_how_b (mv ν) i.toNat j.toNat q
    have w1 := fp_how_b (mv ν) i.toNat j.toNat (am_xor q 1)
    have c0 : am_c x = fp_how (mv ν) i.toNat j.toNat q := by rw [hv6]; exact am_cR (by omega) (by omega)
    have c1 : am_c (fp_how (mv ν) i.toNat j.toNat (am_xor q 1)) = fp_how (mv ν) i.toNat j.toNat (am_xor q 1) := am_cR (by omega) (by omega)
    have eR : fp_hor (mv ν) i j = fp_hs (mv ν) i.toNat j.toNat 4 0 := by unfold fp_hor; rw [e4, if_neg (by omega)]
    refine am_go (ct := fun pc => Nat.beq pc 45 || Nat.beq pc 17) am_oX7_hold 300 ?_
    conv => whnf
    repeat' first
      | (refine (?_ : am_wp _ _ _ _ _ _ _ _ _ _ _ _); conv => whnf)
      | (refine (?_ : am_sw _ _ _ _); conv => whnf)
      | refine And.intro trivial ?_
      | exact trivial
      | (refine n_worthOfPair i j (am_xor q 1) ci cj hw hv3 hv4 hv5 x4.1.1 x4.1.2 ?_)
      | (refine kk _ _ (gm_rf hm0) ?_)
      | refine hv8 ?_ _ _
      | refine x_areTwoT _ _ ci cj f0 f1 (fun y0 y1 y2 => ?_) (fun y => ?_)
      | refine x_no _ ?_ (fun μr fr => ?_)
      | refine kk _ _ (mi_84 hm fr) ?_
      | refine And.intro (fun h => absurd h (by decide)) (fun _ => ?_)
      | refine And.intro (fun _ => ?_) (fun h => absurd (by decide) h)
      | refine And.intro (fun _ => ?_) (fun _ => ?_)
      | refine And.intro ?_ ?_
    all_goals (first | decide | assumption | omega | (rw [← hv2, fp_hs_s hv0 hv1, if_neg (by (simp only [c0, c1] at *; first | done | omega))]) | (rw [eR, ← hv2, fp_hs_s hv0 hv1, if_pos (by (simp only [c0, c1] at *; first | done | omega))]) | (trace_state; fail))
  have lp17 : ∀ (m : Nat) (q : Int) (o4 o5 : Option am_V) , 0 ≤ q → q ≤ 4 → fp_hs (mv ν) i.toNat j.toNat (4 - q).toNat q = fp_hs (mv ν) i.toNat j.toNat 4 0 → (0 ≤ i ∧ i < ν 83 14) → (0 ≤ j ∧ j < ν 83 14) → i ≠ j → 4 - q < (m : Int) → am_AW l 0 (fun _ => 0) 226 Q 17 [some (.inr (.inr 83)), some (.inl i), some (.inl j), some (.inl q), o4, o5] [] ν := by
    intro m
    induction m with
    | zero =>
      intro q o4 o5  hv0 hv1 hv2 hv3 hv4 hv5 hm
      exfalso
      omega
    | succ m ih =>
      intro q o4 o5  hv0 hv1 hv2 hv3 hv4 hv5 hm
      have cq : am_c q = q := am_cR (by omega) (by omega)
      have x4 := fun z : q ≤ 3 => fp_x4 hv0 z
      have w0 := fp_how_b (mv ν) i.toNat j.toNat q
      have w1 := fp_how_b (mv ν) i.toNat j.toNat (am_xor q 1)
      have w2 := fp_how_b (mv ν) i.toNat j.toNat (am_xor q 2)
      have c0 : am_c (fp_how (mv ν) i.toNat j.toNat q) = fp_how (mv ν) i.toNat j.toNat q := am_cR (by omega) (by omega)
      have c1 : am_c (fp_how (mv ν) i.toNat j.toNat (am_xor q 1)) = fp_how (mv ν) i.toNat j.toNat (am_xor q 1) := am_cR (by omega) (by omega)
      have c2 : am_c (fp_how (mv ν) i.toNat j.toNat (am_xor q 2)) = fp_how (mv ν) i.toNat j.toNat (am_xor q 2) := am_cR (by omega) (by omega)
      have eR : fp_hor (mv ν) i j = fp_hs (mv ν) i.toNat j.toNat 4 0 := by unfold fp_hor; rw [e4, if_neg (by omega)]
      refine am_go (ct := fun pc => Nat.beq pc 45 || Nat.beq pc 17) am_oX7_hold 300 ?_
      conv => whnf
      repeat' first
        | (refine (?_ : am_wp _ _ _ _ _ _ _ _ _ _ _ _); conv => whnf)
        | (refine (?_ : am_sw _ _ _ _); conv => whnf)
        | refine And.intro trivial ?_
        | exact trivial
        | (have q3 : q ≤ 3 := (by (simp only [cq, l4] at *; first | done | omega)); (first | have x4 := x4 q3 | skip); first | (refine n_worthOfPair i j q ci cj hw hv3 hv4 hv5 hv0 q3 ?_) | (refine n_worthOfPair i j (am_xor q 2) ci cj hw hv3 hv4 hv5 x4.2.1 x4.2.2 ?_) | (refine n_worthOfPair i j (am_xor q 1) ci cj hw hv3 hv4 hv5 x4.1.1 x4.1.2 ?_))
        | (refine kk _ _ (gm_rf hm0) ?_)
        | refine x_areTwoT _ _ ci cj f0 f1 (fun y0 y1 y2 => ?_) (fun y => ?_)
        | refine x_no _ ?_ (fun μr fr => ?_)
        | refine kk _ _ (mi_84 hm fr) ?_
        | refine ih _ _ _  ?_ ?_ ?_ ?_ ?_ ?_ ?_
        | refine lp45 _ _ _  ?_ ?_ ?_ ?_ ?_ ?_ ?_ ?_ ?_
        | refine And.intro (fun h => absurd h (by decide)) (fun _ => ?_)
        | refine And.intro (fun _ => ?_) (fun h => absurd (by decide) h)
        | refine And.intro (fun _ => ?_) (fun _ => ?_)
        | refine And.intro ?_ ?_
      all_goals (first | decide | assumption | omega | ((simp only [c0, c1, c2] at *; first | done | omega)) | (intro z _ _; exact ih _ _ _ (by omega) (by omega) z hv3 hv4 hv5 (by omega)) | (have q3 : q ≤ 3 := (by (simp only [cq, l4] at *; first | done | omega)); first | (rw [← hv2, fp_hs_s hv0 q3, if_neg (by (simp only [c0, c1, c2] at *; first | done | omega))]) | (rw [eR, ← hv2, fp_hs_s hv0 q3, if_pos (by (simp only [c0, c1, c2] at *; first | done | omega))])) | (rw [eR, ← hv2, show (4 - q).toNat = 0 by (simp only [cq, l4] at *; first | done | omega)]; rfl) | (trace_state; fail))
  have lp17' : ∀ (q : Int) (o4 o5 : Option am_V) , 0 ≤ q → q ≤ 4 → fp_hs (mv ν) i.toNat j.toNat (4 - q).toNat q = fp_hs (mv ν) i.toNat j.toNat 4 0 → (0 ≤ i ∧ i < ν 83 14) → (0 ≤ j ∧ j < ν 83 14) → i ≠ j → am_AW l 0 (fun _ => 0) 226 Q 17 [some (.inr (.inr 83)), some (.inl i), some (.inl j), some (.inl q), o4, o5] [] ν := fun q o4 o5  hv0 hv1 hv2 hv3 hv4 hv5 => lp17 ((4 - q) + 1).toNat q o4 o5  hv0 hv1 hv2 hv3 hv4 hv5 (by omega)
  refine am_go (ct := fun pc => Nat.beq pc 45 || Nat.beq pc 17) am_oX7_hold 300 ?_
  conv => whnf
  repeat' first
    | (refine (?_ : am_wp _ _ _ _ _ _ _ _ _ _ _ _); conv => whnf)
    | (refine (?_ : am_sw _ _ _ _); conv => whnf)
    | refine And.intro trivial ?_
    | exact trivial
    | refine x_areTwoT _ _ ci cj f0 f1 (fun y0 y1 y2 => ?_) (fun y => ?_)
    | refine x_no _ ?_ (fun μr fr => ?_)
    | refine kk _ _ (mi_84 hm fr) ?_
    | refine lp17' _ _ _  ?_ ?_ ?_ ?_ ?_ ?_
    | refine lp45 _ _ _  ?_ ?_ ?_ ?_ ?_ ?_ ?_ ?_ ?_
    | refine And.intro (fun h => absurd h (by decide)) (fun _ => ?_)
    | refine And.intro (fun _ => ?_) (fun h => absurd (by decide) h)
    | refine And.intro (fun _ => ?_) (fun _ => ?_)
    | refine And.intro ?_ ?_
  all_goals (first | decide | assumption | omega | rfl | (unfold fp_hor; rw [e4, if_pos (by omega)]) | (trace_state; fail))
