/-! all ways by thirds -/
def fp_ej (c j : Nat) : Nat := c / 3 ^ j % 3
theorem fp_ej_3 (c j : Nat) : fp_ej c j < 3 := Nat.mod_lt _ (by decide)
theorem fp_ej_l {n j q d : Nat} (hj : j < n) (hn : n ≤ 3) : fp_ej (d * 3 ^ n + q) j = fp_ej q j := by
  unfold fp_ej
  rcases (show (n = 1 ∧ j = 0) ∨ (n = 2 ∧ j = 0) ∨ (n = 2 ∧ j = 1) ∨ (n = 3 ∧ j = 0) ∨ (n = 3 ∧ j = 1) ∨ (n = 3 ∧ j = 2) by omega) with ⟨rfl, rfl⟩ | ⟨rfl, rfl⟩ | ⟨rfl, rfl⟩ | ⟨rfl, rfl⟩ | ⟨rfl, rfl⟩ | ⟨rfl, rfl⟩
  · show (d * 3 + q) / 1 % 3 = q / 1 % 3; omega
  · show (d * 9 + q) / 1 % 3 = q / 1 % 3; omega
  · show (d * 9 + q) / 3 % 3 = q / 3 % 3; omega
  · show (d * 27 + q) / 1 % 3 = q / 1 % 3; omega
  · show (d * 27 + q) / 3 % 3 = q / 3 % 3; omega
  · show (d * 27 + q) / 9 % 3 = q / 9 % 3; omega
theorem fp_ej_t {n q d : Nat} (hq : q < 3 ^ n) (hd : d < 3) (hn : n ≤ 3) : fp_ej (d * 3 ^ n + q) n = d := by
  unfold fp_ej
  rcases (show n = 0 ∨ n = 1 ∨ n = 2 ∨ n = 3 by omega) with rfl | rfl | rfl | rfl
  · have hq : q < 1 := hq; show (d * 1 + q) / 1 % 3 = d; omega
  · have hq : q < 3 := hq; show (d * 3 + q) / 3 % 3 = d; omega
  · have hq : q < 9 := hq; show (d * 9 + q) / 9 % 3 = d; omega
  · have hq : q < 27 := hq; show (d * 27 + q) / 27 % 3 = d; omega
/-- powers of three, quotients: by steps, so that nothing unfolds them -/
def fp_3n : Nat → Nat
  | 0 => 1
  | n + 1 => fp_3n n * 3
theorem fp_3n_e : ∀ n : Nat, fp_3n n = 3 ^ n := by
  intro n
  induction n with
  | zero => rfl
  | succ n ih => rw [Nat.pow_succ, ← ih]; rfl
theorem fp_3n_s (n : Nat) : fp_3n (n + 1) = fp_3n n * 3 := rfl
theorem fp_3n_b {n : Nat} (h : n ≤ 4) : 1 ≤ fp_3n n ∧ fp_3n n ≤ 81 := by
  rcases (show n = 0 ∨ n = 1 ∨ n = 2 ∨ n = 3 ∨ n = 4 by omega) with rfl | rfl | rfl | rfl | rfl <;> exact ⟨by decide, by decide⟩
def fp_q3 (c : Nat) : Nat → Nat
  | 0 => c
  | j + 1 => fp_q3 c j / 3
theorem fp_q3_p (c : Nat) : ∀ j : Nat, fp_q3 c j = c / 3 ^ j := by
  intro j
  induction j with
  | zero => exact (Nat.div_one c).symm
  | succ j ih => rw [Nat.pow_succ, ← Nat.div_div_eq_div_mul, ← ih]; rfl
theorem fp_q3_l (c : Nat) : ∀ j : Nat, fp_q3 c j ≤ c := by
  intro j
  rw [fp_q3_p]
  exact Nat.div_le_self _ _
theorem fp_q3_s (c j : Nat) : fp_q3 c (j + 1) = fp_q3 c j / 3 := rfl
theorem fp_q3_0 (c : Nat) : fp_q3 c 0 = c := rfl
theorem fp_q3_e (c j : Nat) : fp_ej c j = fp_q3 c j % 3 := by rw [fp_q3_p]; rfl
def fp_qt (v : Nat) : Nat → Nat
  | 0 => v
  | p + 1 => fp_qt v p / 10
theorem fp_qt_p (v : Nat) : ∀ p : Nat, fp_qt v p = v / 10 ^ p := by
  intro p
  induction p with
  | zero => exact (Nat.div_one v).symm
  | succ p ih => rw [Nat.pow_succ, ← Nat.div_div_eq_div_mul, ← ih]; rfl
theorem fp_qt_l (v : Nat) : ∀ p : Nat, fp_qt v p ≤ v := by
  intro p
  rw [fp_qt_p]
  exact Nat.div_le_self _ _
theorem fp_qt_s (v p : Nat) : fp_qt v (p + 1) = fp_qt v p / 10 := rfl
theorem fp_qt_0 (v : Nat) : fp_qt v 0 = v := rfl
def fp_cp (e : Nat) : Nat := if e = 2 then 3 else e
/-- in how many of all ways an outcome comes -/
def fp_ew (c : Nat) : Nat → Int
  | 0 => 1
  | j + 1 => if fp_ej c j = 1 then fp_ew c j * 2 else fp_ew c j
theorem fp_ew_e {c q : Nat} : ∀ n : Nat, (∀ j : Nat, j < n → fp_ej c j = fp_ej q j) → fp_ew c n = fp_ew q n := by
  intro n
  induction n with
  | zero => intro _; rfl
  | succ n ih =>
    intro h
    simp only [fp_ew]
    rw [ih (fun j hj => h j (by omega)), h n (by omega)]
theorem fp_ew_b (c : Nat) : ∀ n : Nat, 1 ≤ fp_ew c n ∧ fp_ew c n ≤ (2 ^ n : Nat) := by
  intro n
  induction n with
  | zero => exact ⟨Int.le_refl 1, Int.le_refl 1⟩
  | succ n ih =>
    have e : (((2 ^ (n + 1) : Nat)) : Int) = (2 ^ n : Nat) * 2 := by rw [Nat.pow_succ]; omega
    simp only [fp_ew]
    rw [e]
    split <;> omega
theorem fp_ad3 {a b c x y z : Int} (h1 : a = x) (h2 : b = y) (h3 : c = z) : a + b + c = x + y + z := by rw [h1, h2, h3]
theorem fp_ad4 {a b c d x y z w : Int} (h1 : a = x) (h2 : b = y) (h3 : c = z) (h4 : d = w) : a + b + c + d = x + y + z + w := by rw [h1, h2, h3, h4]
/-- over all races as over all outcomes, each as often as it comes -/
theorem fp_t34 (T s : Nat → Int) : ∀ n : Nat, n ≤ 4 → ∀ H : (Nat → Int) → Int, (∀ t u : Nat → Int, (∀ j : Nat, j < n → t j = u j) → H t = H u) → fp_su (fun k => H (fun j => fp_pt (T j) (s j) (fp_dj k j))) (4 ^ n) = fp_su (fun c => fp_ew c n * H (fun j => fp_pt (T j) (s j) (fp_cp (fp_ej c j)))) (3 ^ n) := by
  intro n
  induction n with
  | zero =>
    intro _ H h
    show (0 : Int) + H _ = 0 + 1 * H _
    rw [Int.one_mul]
    exact congrArg (fun z : Int => (0 : Int) + z) (h _ _ (fun j hj => absurd hj (by omega)))
  | succ n ih =>
    intro hn H h
    have hd : ∀ v : Int, ∀ t u : Nat → Int, (∀ j : Nat, j < n → t j = u j) → H (fun j => if j = n then v else t j) = H (fun j => if j = n then v else u j) := fun v t u e => h _ _ (fun j hj => by
      show (if j = n then v else t j) = (if j = n then v else u j)
      by_cases d : j = n
      · rw [if_pos d, if_pos d]
      · rw [if_neg d, if_neg d]; exact e j (by omega))
    have L : ∀ (d : Nat) (g : Nat → Nat), d < 4 → (∀ q, g q = d * 4 ^ n + q) → fp_su (fun q => H (fun j => fp_pt (T j) (s j) (fp_dj (g q) j))) (4 ^ n) = fp_su (fun c => fp_ew c n * H (fun j => if j = n then fp_pt (T n) (s n) d else fp_pt (T j) (s j) (fp_cp (fp_ej c j)))) (3 ^ n) := fun d g h4 hg => by
      refine Eq.trans (fp_su_e (g := fun q => H (fun j => if j = n then fp_pt (T n) (s n) d else fp_pt (T j) (s j) (fp_dj q j))) _ (fun q hq => h _ _ (fun j hj => ?_))) ?_
      · show fp_pt (T j) (s j) (fp_dj (g q) j) = (if j = n then fp_pt (T n) (s n) d else fp_pt (T j) (s j) (fp_dj q j))
        rw [hg]
        by_cases e : j = n
        · rw [if_pos e, e, fp_dj_t hq h4 (by omega)]
        · rw [if_neg e, fp_dj_l (by omega) (by omega)]
      · exact ih (by omega) (fun t => H (fun j => if j = n then fp_pt (T n) (s n) d else t j)) (hd _)
    have R : ∀ (d : Nat) (g : Nat → Nat), d < 3 → (∀ q, g q = d * 3 ^ n + q) → fp_su (fun c => fp_ew (g c) (n + 1) * H (fun j => fp_pt (T j) (s j) (fp_cp (fp_ej (g c) j)))) (3 ^ n) = fp_su (fun c => fp_ew c n * H (fun j => if j = n then fp_pt (T n) (s n) (fp_cp d) else fp_pt (T j) (s j) (fp_cp (fp_ej c j)))) (3 ^ n) * (if d = 1 then (2 : Int) else 1) := fun d g h3 hg => by
      rw [← fp_su_m]
      refine fp_su_e _ (fun c hc => ?_)
      have ew : fp_ew (g c) n = fp_ew c n := fp_ew_e n (fun j hj => by rw [hg]; exact fp_ej_l hj (by omega))
      have et : fp_ej (g c) n = d := by rw [hg]; exact fp_ej_t hc h3 (by omega)
      have eH : H (fun j => fp_pt (T j) (s j) (fp_cp (fp_ej (g c) j))) = H (fun j => if j = n then fp_pt (T n) (s n) (fp_cp d) else fp_pt (T j) (s j) (fp_cp (fp_ej c j))) := h _ _ (fun j hj => by
        show fp_pt (T j) (s j) (fp_cp (fp_ej (g c) j)) = (if j = n then fp_pt (T n) (s n) (fp_cp d) else fp_pt (T j) (s j) (fp_cp (fp_ej c j)))
        by_cases e : j = n
        · rw [if_pos e, e, et]
        · rw [if_neg e, hg, fp_ej_l (by omega) (by omega)])
      have e1 : fp_ew (g c) (n + 1) = fp_ew c n * (if d = 1 then (2 : Int) else 1) := by
        show (if fp_ej (g c) n = 1 then fp_ew (g c) n * 2 else fp_ew (g c) n) = _
        rw [et, ew]
        by_cases e : d = 1
        · rw [if_pos e, if_pos e]
        · rw [if_neg e, if_neg e, Int.mul_one]
      show fp_ew (g c) (n + 1) * H (fun j => fp_pt (T j) (s j) (fp_cp (fp_ej (g c) j))) = _
      rw [e1, eH, Int.mul_assoc, Int.mul_comm (if d = 1 then (2 : Int) else 1), ← Int.mul_assoc]
    have A : ∀ f : Nat → Int, fp_su f (4 ^ (n + 1)) = fp_su f (4 ^ n) + fp_su (fun q => f (4 ^ n + q)) (4 ^ n) + fp_su (fun q => f (4 ^ n + 4 ^ n + q)) (4 ^ n) + fp_su (fun q => f (4 ^ n + 4 ^ n + 4 ^ n + q)) (4 ^ n) := fun f => by
      rw [show 4 ^ (n + 1) = 4 ^ n + 4 ^ n + 4 ^ n + 4 ^ n by rw [Nat.pow_succ]; omega, fp_su_a f (4 ^ n + 4 ^ n + 4 ^ n), fp_su_a f (4 ^ n + 4 ^ n), fp_su_a f (4 ^ n)]
    have B : ∀ f : Nat → Int, fp_su f (3 ^ (n + 1)) = fp_su f (3 ^ n) + fp_su (fun q => f (3 ^ n + q)) (3 ^ n) + fp_su (fun q => f (3 ^ n + 3 ^ n + q)) (3 ^ n) := fun f => by
      rw [show 3 ^ (n + 1) = 3 ^ n + 3 ^ n + 3 ^ n by rw [Nat.pow_succ]; omega, fp_su_a f (3 ^ n + 3 ^ n), fp_su_a f (3 ^ n)]
    have fin : ∀ x0 x1 x3 : Int, x0 + x1 + x1 + x3 = x0 * (if (0 : Nat) = 1 then (2 : Int) else 1) + x1 * (if (1 : Nat) = 1 then (2 : Int) else 1) + x3 * (if (2 : Nat) = 1 then (2 : Int) else 1) := fun x0 x1 x3 => by
      rw [if_neg (by decide), if_pos rfl, if_neg (by decide)]
      omega
    have l0 := L 0 (fun q => q) (by decide) (fun q => by show q = 0 * 4 ^ n + q; omega)
    have l1 := L 1 (fun q => 4 ^ n + q) (by decide) (fun q => by show 4 ^ n + q = 1 * 4 ^ n + q; omega)
    have l2 := L 2 (fun q => 4 ^ n + 4 ^ n + q) (by decide) (fun q => by show 4 ^ n + 4 ^ n + q = 2 * 4 ^ n + q; omega)
    have l3 := L 3 (fun q => 4 ^ n + 4 ^ n + 4 ^ n + q) (by decide) (fun q => by show 4 ^ n + 4 ^ n + 4 ^ n + q = 3 * 4 ^ n + q; omega)
    have r0 := R 0 (fun q => q) (by decide) (fun q => by show q = 0 * 3 ^ n + q; omega)
    have r1 := R 1 (fun q => 3 ^ n + q) (by decide) (fun q => by show 3 ^ n + q = 1 * 3 ^ n + q; omega)
    have r2 := R 2 (fun q => 3 ^ n + 3 ^ n + q) (by decide) (fun q => by show 3 ^ n + 3 ^ n + q = 2 * 3 ^ n + q; omega)
    exact ((A _).trans (fp_ad4 l0 l1 l2 l3)).trans ((fin _ _ _).trans ((B _).trans (fp_ad3 r0 r1 r2)).symm)
theorem fp_t34' (T s : Nat → Int) (n : Nat) (hn : n ≤ 4) (H : (Nat → Int) → Int) (h : ∀ t u : Nat → Int, (∀ j : Nat, j < n → t j = u j) → H t = H u) : fp_su (fun k => H (fun j => fp_pt (T j) (s j) (fp_dj k j))) (4 ^ n) = fp_su (fun c => fp_ew c n * H (fun j => fp_pt (T j) (s j) (fp_cp (fp_ej c j)))) (fp_3n n) := by
  rw [fp_3n_e]
  exact fp_t34 T s n hn H h
theorem fp_su_bB {f : Nat → Int} {B : Int} (h : ∀ k : Nat, 0 ≤ f k ∧ f k ≤ B) : ∀ N : Nat, 0 ≤ fp_su f N ∧ fp_su f N ≤ (N : Int) * B := by
  intro N
  induction N with
  | zero => exact ⟨(by first | exact Int.le_refl 0 | (show (0 : Int) ≤ _; decide) | (show _ ≤ (0 : Int); decide)), by rw [show ((0 : Nat) : Int) * B = 0 from Int.zero_mul B]; exact (by first | exact Int.le_refl 0 | (show (0 : Int) ≤ _; decide) | (show _ ≤ (0 : Int); decide))⟩
  | succ N ih =>
    have q := h N
    have e : ((N + 1 : Nat) : Int) * B = (N : Int) * B + B := by rw [show ((N + 1 : Nat) : Int) = (N : Int) + 1 from rfl, Int.add_mul, Int.one_mul]
    rw [e]
    simp only [fp_su]
    omega
/-- the gap of two that come first -/
theorem fp_gz_e {t u : Nat → Int} {n : Int} (hn : n ≤ 4) (h : ∀ q : Nat, (q : Int) < n → t q = u q) : fp_gz t n = fp_gz u n := by
  unfold fp_gz
  by_cases d : 1 < n
  · have e1 : fp_od t n 1 = fp_od u n 1 := fp_od_i2 (p := 1) hn (by omega) h
    have e0 : fp_od t n 0 = fp_od u n 0 := fp_od_i2 (p := 0) hn (by omega) h
    have b1 := fp_od_b u n 1
    have b0 := fp_od_b u n 0
    have o1 : fp_od u n 1 < n := fp_od_n hn (by decide) d
    have o0 : fp_od u n 0 < n := fp_od_n hn (by decide) (by omega)
    rw [if_pos d, if_pos d, e1, e0, h _ (by omega), h _ (by omega)]
  · rw [if_neg d, if_neg d]
theorem fp_gz_b {t : Nat → Int} {n : Int} {B : Int} (hn : n ≤ 4) (h : ∀ q : Nat, (q : Int) < n → 0 ≤ t q ∧ t q ≤ B) (hB : 0 ≤ B) : 0 ≤ fp_gz t n ∧ fp_gz t n ≤ B := by
  unfold fp_gz
  by_cases d : 1 < n
  · rw [if_pos d]
    obtain ⟨i0, h0, c0⟩ := am_cnt_s t (m := n.toNat) (by omega) 0 (by omega)
    obtain ⟨i1, h1, c1⟩ := am_cnt_s t (m := n.toNat) (by omega) 1 (by omega)
    have e0 : fp_od t n 0 = (i0 : Int) := fp_od_i hn (by omega) c0
    have e1 : fp_od t n 1 = (i1 : Int) := fp_od_i hn (by omega) c1
    have le := am_cnt_le t h1 (by rw [c0, c1]; decide)
    have b0 := h i0 (by omega)
    have b1 := h i1 (by omega)
    rw [e0, e1, Int.toNat_natCast, Int.toNat_natCast]
    omega
  · rw [if_neg d]
    exact ⟨Int.le_refl 0, hB⟩
/-- what each takes in race k of all -/
def fp_tp (F : am_N) (k : Nat) : Nat → Int := fun j => fp_pt (fp_tf F j) (F 4 j) (fp_dj k j)
def fp_gA (F : am_N) : Int := fp_su (fun k => fp_gz (fp_tp F k) (F 0 4)) (4 ^ (F 0 4).toNat)
def fp_dA (t : Nat → Int) (n D : Int) : Int := if am_dg (fun p => fp_od t n (p : Int)) n.toNat 0 = D then 1 else 0
def fp_oA (F : am_N) (D : Int) : Int := fp_su (fun k => fp_dA (fp_tp F k) (F 0 4) D) (4 ^ (F 0 4).toNat)
theorem fp_dA_e {t u : Nat → Int} {n D : Int} (hn : n ≤ 4) (h : ∀ q : Nat, (q : Int) < n → t q = u q) : fp_dA t n D = fp_dA u n D := by
  unfold fp_dA
  rw [am_dg_eq (f := fun p => fp_od t n (p : Int)) (g := fun p => fp_od u n (p : Int)) n.toNat 0 (fun p hp => fp_od_i2 hn (by omega) h)]
theorem fp_dA_b (t : Nat → Int) (n D : Int) : 0 ≤ fp_dA t n D ∧ fp_dA t n D ≤ 1 := by
  unfold fp_dA
  split <;> omega
theorem fp_tp_b {F : am_N} (h : fp_fw 999 F) (k : Nat) : ∀ q : Nat, (q : Int) < F 0 4 → 0 ≤ fp_tp F k q ∧ fp_tp F k q ≤ 100020 := fun q hq => by
  have hc : am_fC F 0 := by
    obtain ⟨a0, a1, a2, a3, a4, a5, a6⟩ := h
    refine ⟨a4, ⟨by omega, by omega⟩, fun i hi => ?_⟩
    obtain ⟨q1, q2, q3, q4⟩ := a6 i hi
    exact ⟨⟨q3, q2, q1, by omega, by omega⟩, a5 i (by omega)⟩
  have t1 := am_TC_b (i := q) hc (by omega)
  have t1 : 1 ≤ fp_tf F q ∧ fp_tf F q ≤ 60000 := t1
  have s1 := (h.2.2.2.2.2.2 q hq).2.2.2
  have p := fp_pt_b (t := fp_tf F q) (s := F 4 q) (q := fp_dj k q) t1.1 (by omega) s1.1 s1.2
  unfold fp_tp
  omega
theorem fp_p4 {n : Int} (h0 : 0 ≤ n) (h1 : n ≤ 4) : (4 ^ n.toNat : Nat) ≤ 256 ∧ (3 ^ n.toNat : Nat) ≤ 81 := by
  rcases (show n = 0 ∨ n = 1 ∨ n = 2 ∨ n = 3 ∨ n = 4 by omega) with rfl | rfl | rfl | rfl | rfl <;> exact ⟨by decide, by decide⟩
theorem fp_gA_b {F : am_N} (h : fp_fw 999 F) : 0 ≤ fp_gA F ∧ fp_gA F ≤ 100000000 := by
  have n4 := h.2.2.2.2.1
  have p := (fp_p4 n4.1 n4.2).1
  have b := fp_su_bB (f := fun k => fp_gz (fp_tp F k) (F 0 4)) (B := 100020) (fun k => fp_gz_b n4.2 (fp_tp_b h k) (by decide)) (4 ^ (F 0 4).toNat)
  have m := am_mulb (a := ((4 ^ (F 0 4).toNat : Nat) : Int)) (A := 256) (b := 100020) (B := 100020) (by omega) (by omega) (by decide) (by decide)
  unfold fp_gA
  omega
theorem fp_oA_b {F : am_N} (h : fp_fw 999 F) (D : Int) : 0 ≤ fp_oA F D ∧ fp_oA F D ≤ 256 := by
  have n4 := h.2.2.2.2.1
  have p := (fp_p4 n4.1 n4.2).1
  have b := fp_su_b (f := fun k => fp_dA (fp_tp F k) (F 0 4) D) (fun k => fp_dA_b _ _ _) (4 ^ (F 0 4).toNat)
  unfold fp_oA
  omega
/-- told digits: each of them once -/
def fp_dt (v p : Nat) : Nat := v / 10 ^ p % 10
theorem fp_dt_t (v p : Nat) : fp_dt v p < 10 := Nat.mod_lt _ (by decide)
theorem fp_qt_d (v p : Nat) : fp_dt v p = fp_qt v p % 10 := by rw [fp_qt_p]; rfl
def fp_oc (v : Nat) : Nat → Int
  | 0 => 0
  | p + 1 => am_or (fp_oc v p) (am_shl 1 ((fp_dt v p : Nat) : Int))
abbrev fp_eoA (n v : Nat) : Prop := fp_qt v n = 0 ∧ am_c (fp_oc v n) = am_shl 1 (n : Int) - 1
abbrev fp_eoB (n v : Nat) : Prop := (decide (fp_qt v n = 0) && decide (am_c (fp_oc v n) = am_shl 1 (n : Int) - 1)) = true
theorem fp_eoB_i {n v : Nat} : fp_eoB n v ↔ fp_eoA n v := by
  show (decide (fp_qt v n = 0) && decide (am_c (fp_oc v n) = am_shl 1 (n : Int) - 1)) = true ↔ _
  rw [Bool.and_eq_true, decide_eq_true_eq, decide_eq_true_eq]
def fp_eoC (n v : Nat) : Prop := fp_qt v n = 0 ∧ (∀ p : Nat, p < n → fp_dt v p < n) ∧ ∀ p q : Nat, p < q → q < n → fp_dt v p ≠ fp_dt v q
theorem fp_e1F : ∀ a : Nat, a < 10 → (am_c (am_or 0 (am_shl 1 (a : Int))) = 1 ↔ a < 1) := by decide +kernel
theorem fp_e2F : ∀ a : Nat, a < 10 → ∀ b : Nat, b < 10 → (am_c (am_or (am_or 0 (am_shl 1 (a : Int))) (am_shl 1 (b : Int))) = 3 ↔ a < 2 ∧ b < 2 ∧ a ≠ b) := by decide +kernel
theorem fp_e3FT : ((List.range 10).all (fun a : Nat => ((List.range 10).all (fun b : Nat => ((List.range 10).all (fun c : Nat => decide (am_c (am_or (am_or (am_or 0 (am_shl 1 (a : Int))) (am_shl 1 (b : Int))) (am_shl 1 (c : Int))) = 7) == decide (a < 3 ∧ b < 3 ∧ c < 3 ∧ a ≠ b ∧ a ≠ c ∧ b ≠ c))))))) = true := by decide +kernel
theorem fp_e3F : ∀ a : Nat, a < 10 → ∀ b : Nat, b < 10 → ∀ c : Nat, c < 10 → (am_c (am_or (am_or (am_or 0 (am_shl 1 (a : Int))) (am_shl 1 (b : Int))) (am_shl 1 (c : Int))) = 7 ↔ a < 3 ∧ b < 3 ∧ c < 3 ∧ a ≠ b ∧ a ≠ c ∧ b ≠ c) := by
  intro a ha b hb c hc
  have e0 := List.all_eq_true.mp fp_e3FT a (List.mem_range.mpr ha)
  have e1 := List.all_eq_true.mp e0 b (List.mem_range.mpr hb)
  have e2 := List.all_eq_true.mp e1 c (List.mem_range.mpr hc)
  exact decide_eq_decide.mp (eq_of_beq e2)
theorem fp_e4FT : ((List.range 10).all (fun a : Nat => ((List.range 10).all (fun b : Nat => ((List.range 10).all (fun c : Nat => ((List.range 10).all (fun d : Nat => decide (am_c (am_or (am_or (am_or (am_or 0 (am_shl 1 (a : Int))) (am_shl 1 (b : Int))) (am_shl 1 (c : Int))) (am_shl 1 (d : Int))) = 15) == decide (a < 4 ∧ b < 4 ∧ c < 4 ∧ d < 4 ∧ a ≠ b ∧ a ≠ c ∧ a ≠ d ∧ b ≠ c ∧ b ≠ d ∧ c ≠ d))))))))) = true := by decide +kernel
theorem fp_e4F : ∀ a : Nat, a < 10 → ∀ b : Nat, b < 10 → ∀ c : Nat, c < 10 → ∀ d : Nat, d < 10 → (am_c (am_or (am_or (am_or (am_or 0 (am_shl 1 (a : Int))) (am_shl 1 (b : Int))) (am_shl 1 (c : Int))) (am_shl 1 (d : Int))) = 15 ↔ a < 4 ∧ b < 4 ∧ c < 4 ∧ d < 4 ∧ a ≠ b ∧ a ≠ c ∧ a ≠ d ∧ b ≠ c ∧ b ≠ d ∧ c ≠ d) := by
  intro a ha b hb c hc d hd
  have e0 := List.all_eq_true.mp fp_e4FT a (List.mem_range.mpr ha)
  have e1 := List.all_eq_true.mp e0 b (List.mem_range.mpr hb)
  have e2 := List.all_eq_true.mp e1 c (List.mem_range.mpr hc)
  have e3 := List.all_eq_true.mp e2 d (List.mem_range.mpr hd)
  exact decide_eq_decide.mp (eq_of_beq e3)
theorem fp_eoI0 {n v : Nat} (hn : n ≤ 4) : fp_eoA n v ↔ fp_eoC n v := by
  have d0 := fp_dt_t v 0
  have d1 := fp_dt_t v 1
  have d2 := fp_dt_t v 2
  have d3 := fp_dt_t v 3
  unfold fp_eoC
  rcases (show n = 0 ∨ n = 1 ∨ n = 2 ∨ n = 3 ∨ n = 4 by omega) with rfl | rfl | rfl | rfl | rfl
  · refine ⟨fun h => ⟨h.1, fun p hp => absurd hp (by omega), fun p q h1 h2 => absurd h2 (by omega)⟩, fun h => ⟨h.1, by show am_c 0 = am_shl 1 ((0 : Nat) : Int) - 1; decide +kernel⟩⟩
  · have z : am_c (fp_oc v 1) = am_shl 1 ((1 : Nat) : Int) - 1 ↔ fp_dt v 0 < 1 := fp_e1F _ d0
    refine ⟨fun h => ⟨h.1, fun p hp => ?_, fun p q h1 h2 => absurd h2 (by omega)⟩, fun h => ⟨h.1, z.2 (h.2.1 0 (by decide))⟩⟩
    rw [show p = 0 by omega]
    exact z.1 h.2
  · have z : am_c (fp_oc v 2) = am_shl 1 ((2 : Nat) : Int) - 1 ↔ _ := fp_e2F _ d0 _ d1
    refine ⟨fun h => ?_, fun h => ⟨h.1, z.2 ⟨h.2.1 0 (by decide), h.2.1 1 (by decide), h.2.2 0 1 (by decide) (by decide)⟩⟩⟩
    obtain ⟨y0, y1, y2⟩ := z.1 h.2
    refine ⟨h.1, fun p hp => ?_, fun p q h1 h2 => ?_⟩
    · rcases (show p = 0 ∨ p = 1 by omega) with rfl | rfl <;> assumption
    · rw [show p = 0 by omega, show q = 1 by omega]; exact y2
  · have z : am_c (fp_oc v 3) = am_shl 1 ((3 : Nat) : Int) - 1 ↔ _ := fp_e3F _ d0 _ d1 _ d2
    refine ⟨fun h => ?_, fun h => ⟨h.1, z.2 ⟨h.2.1 0 (by decide), h.2.1 1 (by decide), h.2.1 2 (by decide), h.2.2 0 1 (by decide) (by decide), h.2.2 0 2 (by decide) (by decide), h.2.2 1 2 (by decide) (by decide)⟩⟩⟩
    obtain ⟨y0, y1, y2, y3, y4, y5⟩ := z.1 h.2
    refine ⟨h.1, fun p hp => ?_, fun p q h1 h2 => ?_⟩
    · rcases (show p = 0 ∨ p = 1 ∨ p = 2 by omega) with rfl | rfl | rfl <;> assumption
    · rcases (show (p = 0 ∧ q = 1) ∨ (p = 0 ∧ q = 2) ∨ (p = 1 ∧ q = 2) by omega) with ⟨rfl, rfl⟩ | ⟨rfl, rfl⟩ | ⟨rfl, rfl⟩ <;> assumption
  · have z : am_c (fp_oc v 4) = am_shl 1 ((4 : Nat) : Int) - 1 ↔ _ := fp_e4F _ d0 _ d1 _ d2 _ d3
    refine ⟨fun h => ?_, fun h => ⟨h.1, z.2 ⟨h.2.1 0 (by decide), h.2.1 1 (by decide), h.2.1 2 (by decide), h.2.1 3 (by decide), h.2.2 0 1 (by decide) (by decide), h.2.2 0 2 (by decide) (by decide), h.2.2 0 3 (by decide) (by decide), h.2.2 1 2 (by decide) (by decide), h.2.2 1 3 (by decide) (by decide), h.2.2 2 3 (by decide) (by decide)⟩⟩⟩
    obtain ⟨y0, y1, y2, y3, y4, y5, y6, y7, y8, y9⟩ := z.1 h.2
    refine ⟨h.1, fun p hp => ?_, fun p q h1 h2 => ?_⟩
    · rcases (show p = 0 ∨ p = 1 ∨ p = 2 ∨ p = 3 by omega) with rfl | rfl | rfl | rfl <;> assumption
    · rcases (show (p = 0 ∧ q = 1) ∨ (p = 0 ∧ q = 2) ∨ (p = 0 ∧ q = 3) ∨ (p = 1 ∧ q = 2) ∨ (p = 1 ∧ q = 3) ∨ (p = 2 ∧ q = 3) by omega) with ⟨rfl, rfl⟩ | ⟨rfl, rfl⟩ | ⟨rfl, rfl⟩ | ⟨rfl, rfl⟩ | ⟨rfl, rfl⟩ | ⟨rfl, rfl⟩ <;> assumption
/-- one word for it, that nothing takes apart -/
def fp_eo (n v : Nat) : Prop := ∀ _ : Unit, fp_eoC n v
theorem fp_eoI {n v : Nat} (hn : n ≤ 4) : fp_eoB n v ↔ fp_eo n v := (fp_eoB_i.trans (fp_eoI0 hn)).trans ⟨fun h _ => h, fun h => h ()⟩
theorem fp_b1F : ∀ a : Nat, a < 4 → ∀ d : Nat, d < 4 → (am_and (am_shr (am_or 0 (am_shl 1 (a : Int))) (d : Int)) 1 = 1 ↔ a = d) := by decide +kernel
theorem fp_b2F : ∀ a : Nat, a < 4 → ∀ b : Nat, b < 4 → ∀ d : Nat, d < 4 → (am_and (am_shr (am_or (am_or 0 (am_shl 1 (a : Int))) (am_shl 1 (b : Int))) (d : Int)) 1 = 1 ↔ a = d ∨ b = d) := by decide +kernel
theorem fp_b3FT : ((List.range 4).all (fun a : Nat => ((List.range 4).all (fun b : Nat => ((List.range 4).all (fun c : Nat => ((List.range 4).all (fun d : Nat => decide (am_and (am_shr (am_or (am_or (am_or 0 (am_shl 1 (a : Int))) (am_shl 1 (b : Int))) (am_shl 1 (c : Int))) (d : Int)) 1 = 1) == decide (a = d ∨ b = d ∨ c = d))))))))) = true := by decide +kernel
theorem fp_b3F : ∀ a : Nat, a < 4 → ∀ b : Nat, b < 4 → ∀ c : Nat, c < 4 → ∀ d : Nat, d < 4 → (am_and (am_shr (am_or (am_or (am_or 0 (am_shl 1 (a : Int))) (am_shl 1 (b : Int))) (am_shl 1 (c : Int))) (d : Int)) 1 = 1 ↔ a = d ∨ b = d ∨ c = d) := by
  intro a ha b hb c hc d hd
  have e0 := List.all_eq_true.mp fp_b3FT a (List.mem_range.mpr ha)
  have e1 := List.all_eq_true.mp e0 b (List.mem_range.mpr hb)
  have e2 := List.all_eq_true.mp e1 c (List.mem_range.mpr hc)
  have e3 := List.all_eq_true.mp e2 d (List.mem_range.mpr hd)
  exact decide_eq_decide.mp (eq_of_beq e3)
theorem fp_b0F : ∀ d : Nat, d < 4 → am_and (am_shr 0 (d : Int)) 1 ≠ 1 := by decide +kernel
theorem fp_b9F : ∀ x : Nat, x < 16 → ∀ d : Nat, d < 4 → am_c (am_and (am_shr (x : Int) (d : Int)) 1) = am_and (am_shr (x : Int) (d : Int)) 1 := by decide +kernel
theorem fp_oc_b {v n : Nat} (hn : n ≤ 4) : ∀ p : Nat, (∀ q : Nat, q < p → fp_dt v q < n) → 0 ≤ fp_oc v p ∧ fp_oc v p ≤ 15 := by
  intro p
  induction p with
  | zero => intro _; exact ⟨Int.le_refl 0, (show (0 : Int) ≤ 15 by decide)⟩
  | succ p ih =>
    intro h
    have q := ih (fun q hq => h q (by omega))
    have d := h p (by omega)
    exact fp_or1 q.1 q.2 (by omega) (by omega)
theorem fp_bitM {v p d : Nat} (hp : p ≤ 3) (h : ∀ q : Nat, q < p → fp_dt v q < 4) (hd : d < 4) : am_and (am_shr (fp_oc v p) (d : Int)) 1 = 1 ↔ ∃ q : Nat, q < p ∧ fp_dt v q = d := by
  rcases (show p = 0 ∨ p = 1 ∨ p = 2 ∨ p = 3 by omega) with rfl | rfl | rfl | rfl
  · exact ⟨fun z => absurd z (fp_b0F d hd), fun ⟨q, hq, _⟩ => absurd hq (by omega)⟩
  · have z := fp_b1F _ (h 0 (by decide)) d hd
    exact ⟨fun y => ⟨0, by decide, z.1 y⟩, fun ⟨q, hq, e⟩ => z.2 (by rw [show q = 0 by omega] at e; exact e)⟩
  · have z := fp_b2F _ (h 0 (by decide)) _ (h 1 (by decide)) d hd
    refine ⟨fun y => ?_, fun ⟨q, hq, e⟩ => z.2 ?_⟩
    · rcases z.1 y with x | x
      · exact ⟨0, by decide, x⟩
      · exact ⟨1, by decide, x⟩
    · rcases (show q = 0 ∨ q = 1 by omega) with rfl | rfl
      · exact Or.inl e
      · exact Or.inr e
  · have z := fp_b3F _ (h 0 (by decide)) _ (h 1 (by decide)) _ (h 2 (by decide)) d hd
    refine ⟨fun y => ?_, fun ⟨q, hq, e⟩ => z.2 ?_⟩
    · rcases z.1 y with x | x | x
      · exact ⟨0, by decide, x⟩
      · exact ⟨1, by decide, x⟩
      · exact ⟨2, by decide, x⟩
    · rcases (show q = 0 ∨ q = 1 ∨ q = 2 by omega) with rfl | rfl | rfl
      · exact Or.inl e
      · exact Or.inr (Or.inl e)
      · exact Or.inr (Or.inr e)
theorem fp_bitc {x d : Int} (x0 : 0 ≤ x) (x1 : x ≤ 15) (d0 : 0 ≤ d) (d1 : d < 4) : am_c (am_and (am_shr x d) 1) = am_and (am_shr x d) 1 := by
  have h := fp_b9F x.toNat (by omega) d.toNat (by omega)
  rw [Int.toNat_of_nonneg x0, Int.toNat_of_nonneg d0] at h
  exact h
theorem fp_s1_b {n : Int} (h0 : 0 ≤ n) (h1 : n ≤ 4) : am_c (am_shl 1 n - 1) = am_shl 1 n - 1 := by
  rcases (show n = 0 ∨ n = 1 ∨ n = 2 ∨ n = 3 ∨ n = 4 by omega) with rfl | rfl | rfl | rfl | rfl <;> decide +kernel
def fp_wD (T S : Nat → Int) (n D : Int) (c : Nat) : Int := fp_ew c n.toNat * fp_dA (fun j => fp_pt (T j) (S j) (fp_cp (fp_ej c j))) n D
theorem fp_wD_o {F : am_N} {n D : Int} (e : F 0 4 = n) (h0 : 0 ≤ n) (h1 : n ≤ 4) : fp_su (fp_wD (fp_tf F) (F 4) n D) (fp_3n n.toNat) = fp_oA F D := by
  have h := fp_t34' (fp_tf F) (F 4) n.toNat (by omega) (fun t => fp_dA t n D) (fun t u h => fp_dA_e h1 (fun q hq => h q (by omega)))
  unfold fp_oA
  rw [e]
  exact h.symm
theorem fp_wD_s {T S : Nat → Int} {n D : Int} {c : Nat} : fp_su (fp_wD T S n D) (c + 1) = fp_su (fp_wD T S n D) c + fp_ew c n.toNat * (if am_dg (fun p => fp_od (fun j => fp_pt (T j) (S j) (fp_cp (fp_ej c j))) n (p : Int)) n.toNat 0 = D then 1 else 0) := rfl
def fp_odr (F : am_N) (v w : Int) : Int := if ¬(0 ≤ v ∧ fp_eoB (F 0 4).toNat v.toNat) then 4000000000000000001 else if ¬(w = 0 ∨ w = 1) then 4000000000000000002 else fp_fr (fp_oA F v) (fp_al2 F) w
def fp_clr (F : am_N) (x w : Int) : Int := if ¬((x = 0 ∨ x = 1) ∧ (w = 0 ∨ w = 1)) then 4000000000000000002 else if F 0 4 < 2 then 4000000000000000003 else if x = 0 then fp_fr (fp_gA F) (fp_al2 F) w else fp_fr (fp_un F) (fp_al2 F) w
def fp_r3 (a b c : Int) (e : Nat) : Int := if e = 0 then a else if e = 1 then b else c
theorem fp_r3_p {t s : Int} {e : Nat} (he : e < 3) : fp_r3 (fp_pt t s 0) t (t + s) e = fp_pt t s (fp_cp e) := by
  rcases (show e = 0 ∨ e = 1 ∨ e = 2 by omega) with rfl | rfl | rfl <;> rfl
/-- digits of an order are canonical -/
theorem am_dg_b {f : Int → Int} (h : ∀ p : Int, 0 ≤ f p ∧ f p ≤ 3) : ∀ (m : Nat) (v : Int), 0 ≤ v → v ≤ 3333 → m ≤ 4 → v < 10 ^ (4 - m) → 0 ≤ am_dg (fun p => f (p : Int)) m v ∧ am_dg (fun p => f (p : Int)) m v ≤ 99999 := by
  intro m
  induction m with
  | zero => intro v h0 h1 _ _; exact ⟨h0, by show v ≤ 99999; omega⟩
  | succ m ih =>
    intro v h0 h1 hm hv
    have q := h (m : Int)
    show 0 ≤ am_dg (fun p => f (p : Int)) m (10 * v + f (m : Int)) ∧ am_dg (fun p => f (p : Int)) m (10 * v + f (m : Int)) ≤ 99999
    rcases (show m = 0 ∨ m = 1 ∨ m = 2 ∨ m = 3 by omega) with rfl | rfl | rfl | rfl
    · have hv : v < 1000 := hv; show 0 ≤ 10 * v + f 0 ∧ 10 * v + f 0 ≤ 99999; have q : 0 ≤ f 0 ∧ f 0 ≤ 3 := q; omega
    · have hv : v < 100 := hv; exact ih _ (by omega) (by omega) (by omega) (by show _ < (1000 : Int); omega)
    · have hv : v < 10 := hv; exact ih _ (by omega) (by omega) (by omega) (by show _ < (100 : Int); omega)
    · have hv : v < 1 := hv; exact ih _ (by omega) (by omega) (by omega) (by show _ < (10 : Int); omega)
theorem am_dg_c {n : Int} (hn : n ≤ 4) (f : Int → Int) (h : ∀ p : Int, 0 ≤ f p ∧ f p ≤ 3) : am_c (am_dg (fun p => f (p : Int)) n.toNat 0) = am_dg (fun p => f (p : Int)) n.toNat 0 := by
  have b := am_dg_b h n.toNat 0 (by decide) (by decide) (by omega) (by rcases (show n.toNat = 0 ∨ n.toNat = 1 ∨ n.toNat = 2 ∨ n.toNat = 3 ∨ n.toNat = 4 by omega) with z | z | z | z | z <;> rw [z] <;> decide)
  exact am_cR (by omega) (by omega)
theorem s_outcomes {l : Launch} {ν : am_N} {Q : Option am_V → am_N → Prop} (n0 : 0 ≤ ν 29 0) (n4 : ν 29 0 ≤ 4) (k : Q (some (.inl ((fp_3n (ν 29 0).toNat : Nat) : Int))) ν) : am_Does l 28 [.inr (.inr 29)] ν Q := by
  refine am_Does_of (Nat.le_of_ble_eq_true rfl) (Nat.le_of_ble_eq_true rfl) (Nat.le_of_ble_eq_true rfl) ?_
  have l0 : am_c 0 = 0 := rfl
  have l1 : am_c 1 = 1 := rfl
  have l2 : am_c 2 = 2 := rfl
  have l3 : am_c 3 = 3 := rfl
  have l10 : am_c 10 = 10 := rfl
  have cn : am_c (ν 29 0) = ν 29 0 := am_cR (by omega) (by omega)
  have lp4 : ∀ (m : Nat) (x i : Int) , 0 ≤ i → i ≤ ν 29 0 → x = ((fp_3n i.toNat : Nat) : Int) → ν 29 0 - i < (m : Int) → am_AW l 0 (fun _ => 0) 28 Q 4 [some (.inr (.inr 29)), some (.inl x), some (.inl i)] [] ν := by
    intro m
    induction m with
    | zero =>
      intro x i  hv0 hv1 hv2 hm
      exfalso
      omega
    | succ m ih =>
      intro x i  hv0 hv1 hv2 hm
      have ci : am_c i = i := am_cR (by omega) (by omega)
      refine am_go (ct := fun pc => Nat.beq pc 4) am_oX2_outcomes 300 ?_
      conv => whnf
      repeat' first
        | (refine (?_ : am_wp _ _ _ _ _ _ _ _ _ _ _ _); conv => whnf)
        | (refine (?_ : am_sw _ _ _ _); conv => whnf)
        | refine And.intro trivial ?_
        | exact trivial
        | refine am_qe k ?_
        | refine ih _ _  ?_ ?_ ?_ ?_
        | refine And.intro (fun h => absurd h (by decide)) (fun _ => ?_)
        | refine And.intro (fun _ => ?_) (fun h => absurd (by decide) h)
        | refine And.intro (fun _ => ?_) (fun _ => ?_)
        | refine And.intro ?_ ?_
      all_goals (first | omega | (with_reducible assumption) | ((simp only [ci, cn] at *; first | done | omega)) | (rw [show (i + 1).toNat = i.toNat + 1 by omega, fp_3n_s, hv2]; omega) | (rw [hv2, show i.toNat = (ν 29 0).toNat by (simp only [ci, cn] at *; first | done | omega)]) | decide | assumption | (trace_state; fail))
  have lp4' : ∀ (x i : Int) , 0 ≤ i → i ≤ ν 29 0 → x = ((fp_3n i.toNat : Nat) : Int) → am_AW l 0 (fun _ => 0) 28 Q 4 [some (.inr (.inr 29)), some (.inl x), some (.inl i)] [] ν := fun x i  hv0 hv1 hv2 => lp4 ((ν 29 0 - i) + 1).toNat x i  hv0 hv1 hv2 (by omega)
  refine am_go (ct := fun pc => Nat.beq pc 4) am_oX2_outcomes 300 ?_
  conv => whnf
  repeat' first
    | (refine (?_ : am_wp _ _ _ _ _ _ _ _ _ _ _ _); conv => whnf)
    | (refine (?_ : am_sw _ _ _ _); conv => whnf)
    | refine And.intro trivial ?_
    | exact trivial
    | refine lp4' _ _  ?_ ?_ ?_
    | refine And.intro (fun h => absurd h (by decide)) (fun _ => ?_)
    | refine And.intro (fun _ => ?_) (fun h => absurd (by decide) h)
    | refine And.intro (fun _ => ?_) (fun _ => ?_)
    | refine And.intro ?_ ?_
  all_goals (first | omega | (with_reducible assumption) | rfl | (trace_state; fail))
theorem s_deal {l : Launch} {ν : am_N} {Q : Option am_V → am_N → Prop} (c : Int) (n0 : 0 ≤ ν 29 0) (n4 : ν 29 0 ≤ 4) (c0 : 0 ≤ c) (c1 : c < 81) (hb : ∀ j : Nat, (j : Int) < ν 29 0 → (0 ≤ ν 30 j ∧ ν 30 j ≤ 200000) ∧ (0 ≤ ν 31 j ∧ ν 31 j ≤ 200000) ∧ (0 ≤ ν 32 j ∧ ν 32 j ≤ 200000)) (k : ∀ μ' : am_N, (∀ a b, a ≠ 33 → a ≠ 34 → μ' a b = ν a b) → (∀ q : Nat, (q : Int) < ν 29 0 → μ' 33 q = fp_r3 (ν 30 q) (ν 31 q) (ν 32 q) (fp_ej c.toNat q)) → am_isord μ' 34 (μ' 33) (ν 29 0) → (sx_3 ν 34 → sx_3 μ' 34) → Q (some (.inl (fp_ew c.toNat (ν 29 0).toNat))) μ') : am_Does l 29 [.inr (.inr 29), .inl c] ν Q := by
  refine am_Does_of (Nat.le_of_ble_eq_true rfl) (Nat.le_of_ble_eq_true rfl) (Nat.le_of_ble_eq_true rfl) ?_
  have l0 : am_c 0 = 0 := rfl
  have l1 : am_c 1 = 1 := rfl
  have l2 : am_c 2 = 2 := rfl
  have l3 : am_c 3 = 3 := rfl
  have l10 : am_c 10 = 10 := rfl
  have cn : am_c (ν 29 0) = ν 29 0 := am_cR (by omega) (by omega)
  have lp7 : ∀ (m : Nat) (y w i : Int) (o5 : Option am_V) (μ : am_N) , (∀ a b, a ≠ 33 → μ a b = ν a b) → 0 ≤ i → i ≤ ν 29 0 → y = ((fp_q3 c.toNat i.toNat : Nat) : Int) → w = fp_ew c.toNat i.toNat → (∀ q : Nat, (q : Int) < i → μ 33 q = fp_r3 (ν 30 q) (ν 31 q) (ν 32 q) (fp_ej c.toNat q)) → ν 29 0 - i < (m : Int) → am_AW l 0 (fun _ => 0) 29 Q 7 [some (.inr (.inr 29)), some (.inl c), some (.inl y), some (.inl w), some (.inl i), o5] [] μ := by
    intro m
    induction m with
    | zero =>
      intro y w i o5 μ hv0 hv1 hv2 hv3 hv4 hv5 hm
      exfalso
      omega
    | succ m ih =>
      intro y w i o5 μ hv0 hv1 hv2 hv3 hv4 hv5 hm
      have ci : am_c i = i := am_cR (by omega) (by omega)
      have ei : (am_c i).toNat = i.toNat := by rw [ci]
      have e29 : μ 29 0 = ν 29 0 := hv0 29 0 (by decide)
      have yb := fp_q3_l c.toNat i.toNat
      have cy : am_c y = y := am_cR (by omega) (by omega)
      have erem : (am_c y).tmod (am_c 3) = ((fp_ej c.toNat i.toNat : Nat) : Int) := by rw [cy, l3, Int.tmod_eq_emod_of_nonneg (by omega), hv3, fp_q3_e]; omega
      have ediv : (am_c y).tdiv (am_c 3) = ((fp_q3 c.toNat (i.toNat + 1) : Nat) : Int) := by rw [cy, l3, Int.tdiv_eq_ediv_of_nonneg (by omega), hv3, fp_q3_s]; omega
      have e3 := fp_ej_3 c.toNat i.toNat
      have ce : am_c (((fp_ej c.toNat i.toNat : Nat) : Int)) = ((fp_ej c.toNat i.toNat : Nat) : Int) := am_cR (by omega) (by omega)
      refine am_go (ct := fun pc => Nat.beq pc 7) am_oX2_deal 300 ?_
      conv => whnf
      repeat' first
        | (refine (?_ : am_wp _ _ _ _ _ _ _ _ _ _ _ _); conv => whnf)
        | (refine (?_ : am_sw _ _ _ _); conv => whnf)
        | refine And.intro trivial ?_
        | exact trivial
        | (have iE : i = ν 29 0 := (by (simp only [ci, e29, cn] at *; first | done | omega)); refine x_line (by rw [e29]; exact n0) (by rw [e29]; exact n4) (fun j hj => by rw [e29] at hj; have z := hb j hj; rw [hv5 j (by omega)]; unfold fp_r3; (repeat' split) <;> omega) (fun μ2 g2 o2 b2 => ?_); rw [e29] at o2; have e33 : μ2 33 = μ 33 := funext (fun b => g2 33 b (by decide)))
        | (refine am_qe (k μ2 (fun a b q1 q2 => (g2 a b q2).trans (hv0 a b q1)) (fun q hq => by rw [e33]; exact hv5 q (by omega)) (by rw [e33]; exact o2) (fun p => b2 (fun x hx => by rw [hv0 34 x (by decide)]; exact p x hx))) ?_)
        | refine ih _ _ _ _ _ ?_ ?_ ?_ ?_ ?_ ?_ ?_
        | refine And.intro (fun h => absurd h (by decide)) (fun _ => ?_)
        | refine And.intro (fun _ => ?_) (fun h => absurd (by decide) h)
        | refine And.intro (fun _ => ?_) (fun _ => ?_)
        | refine And.intro ?_ ?_
      all_goals (first | omega | (with_reducible assumption) | (rw [ei]; omega) | (rw [ci]; (simp only [ci, e29, cn] at *; first | done | omega)) | ((simp only [ci, e29, cn] at *; first | done | omega)) | (intro a b q1; rw [am_upN q1]; exact hv0 a b q1) | (rw [show (i + 1).toNat = i.toNat + 1 by omega]; exact ediv) | (rw [show (i + 1).toNat = i.toNat + 1 by omega]; simp only [fp_ew]; first | (rw [if_pos (by (simp only [erem, ce, l0, l1] at *; first | done | omega)), hv4]) | (rw [if_neg (by (simp only [erem, ce, l0, l1] at *; first | done | omega))]; exact hv4) | (exfalso; (simp only [erem, ce, l0, l1] at *; first | done | omega))) | (intro q hq; by_cases d : (q : Int) = i; (rw [am_upS, if_pos ⟨rfl, by rw [ei]; omega⟩, show q = i.toNat by omega, ei]; unfold fp_r3; first | (rw [if_pos (by (simp only [erem, ce, l0, l1] at *; first | done | omega))]; exact hv0 _ _ (by decide)) | (rw [if_neg (by (simp only [erem, ce, l0, l1] at *; first | done | omega)), if_pos (by (simp only [erem, ce, l0, l1] at *; first | done | omega))]; exact hv0 _ _ (by decide)) | (rw [if_neg (by (simp only [erem, ce, l0, l1] at *; first | done | omega)), if_neg (by (simp only [erem, ce, l0, l1] at *; first | done | omega))]; exact hv0 _ _ (by decide)) | (exfalso; (simp only [erem, ce, l0, l1] at *; first | done | omega))); (rw [am_upM (by rw [ei]; omega)]; exact hv5 q (by omega))) | (rw [hv4, iE]) | decide | assumption | (trace_state; fail))
  have lp7' : ∀ (y w i : Int) (o5 : Option am_V) (μ : am_N) , (∀ a b, a ≠ 33 → μ a b = ν a b) → 0 ≤ i → i ≤ ν 29 0 → y = ((fp_q3 c.toNat i.toNat : Nat) : Int) → w = fp_ew c.toNat i.toNat → (∀ q : Nat, (q : Int) < i → μ 33 q = fp_r3 (ν 30 q) (ν 31 q) (ν 32 q) (fp_ej c.toNat q)) → am_AW l 0 (fun _ => 0) 29 Q 7 [some (.inr (.inr 29)), some (.inl c), some (.inl y), some (.inl w), some (.inl i), o5] [] μ := fun y w i o5 μ hv0 hv1 hv2 hv3 hv4 hv5 => lp7 ((ν 29 0 - i) + 1).toNat y w i o5 μ hv0 hv1 hv2 hv3 hv4 hv5 (by omega)
  refine am_go (ct := fun pc => Nat.beq pc 7) am_oX2_deal 300 ?_
  conv => whnf
  repeat' first
    | (refine (?_ : am_wp _ _ _ _ _ _ _ _ _ _ _ _); conv => whnf)
    | (refine (?_ : am_sw _ _ _ _); conv => whnf)
    | refine And.intro trivial ?_
    | exact trivial
    | refine lp7' _ _ _ _ _ ?_ ?_ ?_ ?_ ?_ ?_
    | refine And.intro (fun h => absurd h (by decide)) (fun _ => ?_)
    | refine And.intro (fun _ => ?_) (fun h => absurd (by decide) h)
    | refine And.intro (fun _ => ?_) (fun _ => ?_)
    | refine And.intro ?_ ?_
  all_goals (first | omega | (with_reducible assumption) | rfl | (intros; rfl) | (intros; omega) | (rw [show (0 : Int).toNat = 0 from rfl, fp_q3_0]; omega) | (trace_state; fail))
theorem s_waysOf {l : Launch} {ν : am_N} {Q : Option am_V → am_N → Prop} (D : Int) (cD : am_c D = D) (T S : Nat → Int) (n0 : 0 ≤ ν 29 0) (n4 : ν 29 0 ≤ 4) (hb : ∀ j : Nat, (j : Int) < ν 29 0 → (0 ≤ ν 30 j ∧ ν 30 j ≤ 200000) ∧ (0 ≤ ν 31 j ∧ ν 31 j ≤ 200000) ∧ (0 ≤ ν 32 j ∧ ν 32 j ≤ 200000)) (hr : ∀ q : Nat, (q : Int) < ν 29 0 → ν 30 q = fp_pt (T q) (S q) 0 ∧ ν 31 q = T q ∧ ν 32 q = T q + S q) (hp : sx_3 ν 34) (k : ∀ μ' : am_N, (∀ a b, a ≠ 33 → a ≠ 34 → μ' a b = ν a b) → sx_3 μ' 34 → Q (some (.inl (fp_su (fp_wD T S (ν 29 0) D) (fp_3n (ν 29 0).toNat)))) μ') : am_Does l 30 [.inr (.inr 29), .inl D] ν Q := by
  refine am_Does_of (Nat.le_of_ble_eq_true rfl) (Nat.le_of_ble_eq_true rfl) (Nat.le_of_ble_eq_true rfl) ?_
  have l0 : am_c 0 = 0 := rfl
  have l1 : am_c 1 = 1 := rfl
  have l2 : am_c 2 = 2 := rfl
  have l3 : am_c 3 = 3 := rfl
  have l10 : am_c 10 = 10 := rfl
  have cn : am_c (ν 29 0) = ν 29 0 := am_cR (by omega) (by omega)
  have p3 := fp_3n_b (n := (ν 29 0).toNat) (by omega)
  have c3 : am_c (((fp_3n (ν 29 0).toNat : Nat) : Int)) = ((fp_3n (ν 29 0).toNat : Nat) : Int) := am_cR (by omega) (by omega)
  have lp10 : ∀ (m : Nat) (y w c : Int) (o5 : Option am_V) (μ : am_N) , (∀ a b, a ≠ 33 → a ≠ 34 → μ a b = ν a b) → 0 ≤ c → c ≤ ((fp_3n (ν 29 0).toNat : Nat) : Int) → y = ((fp_3n (ν 29 0).toNat : Nat) : Int) → w = fp_su (fp_wD T S (ν 29 0) D) c.toNat → sx_3 μ 34 → ((fp_3n (ν 29 0).toNat : Nat) : Int) - c < (m : Int) → am_AW l 0 (fun _ => 0) 30 Q 10 [some (.inr (.inr 29)), some (.inl D), some (.inl y), some (.inl w), some (.inl c), o5] [] μ := by
    intro m
    induction m with
    | zero =>
      intro y w c o5 μ hv0 hv1 hv2 hv3 hv4 hv5 hm
      exfalso
      omega
    | succ m ih =>
      intro y w c o5 μ hv0 hv1 hv2 hv3 hv4 hv5 hm
      have cc : am_c c = c := am_cR (by omega) (by omega)
      have cy : am_c y = ((fp_3n (ν 29 0).toNat : Nat) : Int) := by rw [hv3]; exact c3
      have e29 : μ 29 0 = ν 29 0 := hv0 29 0 (by decide) (by decide)
      have er : ∀ a b, 30 ≤ a → a ≤ 32 → μ a b = ν a b := fun a b q1 q2 => hv0 a b (by omega) (by omega)
      refine am_go (ct := fun pc => Nat.beq pc 10) am_oX2_waysOf 300 ?_
      conv => whnf
      repeat' first
        | (refine (?_ : am_wp _ _ _ _ _ _ _ _ _ _ _ _); conv => whnf)
        | (refine (?_ : am_sw _ _ _ _); conv => whnf)
        | refine And.intro trivial ?_
        | exact trivial
        | (have cN : c < ((fp_3n (ν 29 0).toNat : Nat) : Int) := (by (simp only [cc, cy] at *; first | done | omega)); refine s_deal c (by rw [e29]; exact n0) (by rw [e29]; exact n4) hv1 (by omega) (fun j hj => by rw [e29] at hj; rw [er 30 j (by decide) (by decide), er 31 j (by decide) (by decide), er 32 j (by decide) (by decide)]; exact hb j hj) (fun μ2 g2 t2 o2 b2 => ?_); rw [e29] at t2 o2 ⊢; have e29' : μ2 29 0 = ν 29 0 := (g2 29 0 (by decide) (by decide)).trans e29; have u2 : ∀ q : Nat, (q : Int) < ν 29 0 → μ2 33 q = fp_pt (T q) (S q) (fp_cp (fp_ej c.toNat q)) := (fun q hq => by obtain ⟨h1, h2, h3⟩ := hr q hq; rw [t2 q hq, er 30 q (by decide) (by decide), er 31 q (by decide) (by decide), er 32 q (by decide) (by decide), h1, h2, h3]; exact fp_r3_p (fp_ej_3 _ _)))
        | (refine x_digits (by rw [e29']; exact n0) (by rw [e29']; exact n4) ?_)
        | (have cE : c.toNat = fp_3n (ν 29 0).toNat := (by (simp only [cc, cy] at *; first | done | omega)); refine am_qe (k _ hv0 hv5) ?_)
        | (refine s_outcomes n0 n4 ?_)
        | refine ih _ _ _ _ _ ?_ ?_ ?_ ?_ ?_ ?_ ?_
        | refine And.intro (fun h => absurd h (by decide)) (fun _ => ?_)
        | refine And.intro (fun _ => ?_) (fun h => absurd (by decide) h)
        | refine And.intro (fun _ => ?_) (fun _ => ?_)
        | refine And.intro ?_ ?_
      all_goals (first | omega | (with_reducible assumption) | ((simp only [cc, cy] at *; first | done | omega)) | (intro a b q1 q2; rw [g2 a b q1 q2]; exact hv0 a b q1 q2) | exact b2 hv5 | (have ed : am_dg (μ2 34) (ν 29 0).toNat 0 = am_dg (fun p => fp_od (fun j => fp_pt (T j) (S j) (fp_cp (fp_ej c.toNat j))) (ν 29 0) (p : Int)) (ν 29 0).toNat 0 := am_dg_eq _ _ (fun p hp => by rw [fp_od_o n4 o2 p (by omega)]; exact fp_od_i2 n4 (by omega) u2); have xx : am_c (am_dg (μ2 34) (ν 29 0).toNat 0) = am_dg (fun p => fp_od (fun j => fp_pt (T j) (S j) (fp_cp (fp_ej c.toNat j))) (ν 29 0) (p : Int)) (ν 29 0).toNat 0 := (by rw [ed]; exact am_dg_c n4 (fp_od (fun j => fp_pt (T j) (S j) (fp_cp (fp_ej c.toNat j))) (ν 29 0)) (fun p => fp_od_b _ _ _)); rw [show (c + 1).toNat = c.toNat + 1 by omega]; rw [fp_wD_s]; have xx2 : am_c (am_dg (μ2 34) (μ2 29 0).toNat 0) = am_dg (fun p => fp_od (fun j => fp_pt (T j) (S j) (fp_cp (fp_ej c.toNat j))) (ν 29 0) (p : Int)) (ν 29 0).toNat 0 := (by rw [e29']; exact xx); first | (rw [if_pos (by omega), Int.mul_one]; omega) | (rw [if_neg (by omega), Int.mul_zero]; omega)) | (rw [hv4, cE]) | decide | assumption | (trace_state; fail))
  have lp10' : ∀ (y w c : Int) (o5 : Option am_V) (μ : am_N) , (∀ a b, a ≠ 33 → a ≠ 34 → μ a b = ν a b) → 0 ≤ c → c ≤ ((fp_3n (ν 29 0).toNat : Nat) : Int) → y = ((fp_3n (ν 29 0).toNat : Nat) : Int) → w = fp_su (fp_wD T S (ν 29 0) D) c.toNat → sx_3 μ 34 → am_AW l 0 (fun _ => 0) 30 Q 10 [some (.inr (.inr 29)), some (.inl D), some (.inl y), some (.inl w), some (.inl c), o5] [] μ := fun y w c o5 μ hv0 hv1 hv2 hv3 hv4 hv5 => lp10 ((((fp_3n (ν 29 0).toNat : Nat) : Int) - c) + 1).toNat y w c o5 μ hv0 hv1 hv2 hv3 hv4 hv5 (by omega)
  refine am_go (ct := fun pc => Nat.beq pc 10) am_oX2_waysOf 300 ?_
  conv => whnf
  repeat' first
    | (refine (?_ : am_wp _ _ _ _ _ _ _ _ _ _ _ _); conv => whnf)
    | (refine (?_ : am_sw _ _ _ _); conv => whnf)
    | refine And.intro trivial ?_
    | exact trivial
    | (refine s_outcomes n0 n4 ?_)
    | refine lp10' _ _ _ _ _ ?_ ?_ ?_ ?_ ?_ ?_
    | refine And.intro (fun h => absurd h (by decide)) (fun _ => ?_)
    | refine And.intro (fun _ => ?_) (fun h => absurd (by decide) h)
    | refine And.intro (fun _ => ?_) (fun _ => ?_)
    | refine And.intro ?_ ?_
  all_goals (first | omega | (with_reducible assumption) | rfl | (intros; rfl) | (trace_state; fail))
theorem s_gapAll {l : Launch} {ν : am_N} {Q : Option am_V → am_N → Prop} (T S : Nat → Int) (n0 : 0 ≤ ν 29 0) (n1 : 1 ≤ ν 29 0) (n4 : ν 29 0 ≤ 4) (hb : ∀ j : Nat, (j : Int) < ν 29 0 → (0 ≤ ν 30 j ∧ ν 30 j ≤ 200000) ∧ (0 ≤ ν 31 j ∧ ν 31 j ≤ 200000) ∧ (0 ≤ ν 32 j ∧ ν 32 j ≤ 200000)) (hr : ∀ q : Nat, (q : Int) < ν 29 0 → ν 30 q = fp_pt (T q) (S q) 0 ∧ ν 31 q = T q ∧ ν 32 q = T q + S q) (hp : sx_3 ν 34) (k : ∀ μ' : am_N, (∀ a b, a ≠ 33 → a ≠ 34 → μ' a b = ν a b) → sx_3 μ' 34 → Q (some (.inl (fp_su (fun c : Nat => fp_ew c (ν 29 0).toNat * fp_gz (fun j => fp_pt (T j) (S j) (fp_cp (fp_ej c j))) (ν 29 0)) (fp_3n (ν 29 0).toNat)))) μ') : am_Does l 31 [.inr (.inr 29)] ν Q := by
  refine am_Does_of (Nat.le_of_ble_eq_true rfl) (Nat.le_of_ble_eq_true rfl) (Nat.le_of_ble_eq_true rfl) ?_
  have l0 : am_c 0 = 0 := rfl
  have l1 : am_c 1 = 1 := rfl
  have l2 : am_c 2 = 2 := rfl
  have l3 : am_c 3 = 3 := rfl
  have l10 : am_c 10 = 10 := rfl
  have cn : am_c (ν 29 0) = ν 29 0 := am_cR (by omega) (by omega)
  have p3 := fp_3n_b (n := (ν 29 0).toNat) (by omega)
  have c3 : am_c (((fp_3n (ν 29 0).toNat : Nat) : Int)) = ((fp_3n (ν 29 0).toNat : Nat) : Int) := am_cR (by omega) (by omega)
  have lp9 : ∀ (m : Nat) (y w c : Int) (o5 : Option am_V) (μ : am_N) , (∀ a b, a ≠ 33 → a ≠ 34 → μ a b = ν a b) → 0 ≤ c → c ≤ ((fp_3n (ν 29 0).toNat : Nat) : Int) → y = ((fp_3n (ν 29 0).toNat : Nat) : Int) → w = fp_su (fun c : Nat => fp_ew c (ν 29 0).toNat * fp_gz (fun j => fp_pt (T j) (S j) (fp_cp (fp_ej c j))) (ν 29 0)) c.toNat → sx_3 μ 34 → ((fp_3n (ν 29 0).toNat : Nat) : Int) - c < (m : Int) → am_AW l 0 (fun _ => 0) 31 Q 9 [some (.inr (.inr 29)), some (.inl y), some (.inl w), some (.inl c), o5] [] μ := by
    intro m
    induction m with
    | zero =>
      intro y w c o5 μ hv0 hv1 hv2 hv3 hv4 hv5 hm
      exfalso
      omega
    | succ m ih =>
      intro y w c o5 μ hv0 hv1 hv2 hv3 hv4 hv5 hm
      have cc : am_c c = c := am_cR (by omega) (by omega)
      have cy : am_c y = ((fp_3n (ν 29 0).toNat : Nat) : Int) := by rw [hv3]; exact c3
      have e29 : μ 29 0 = ν 29 0 := hv0 29 0 (by decide) (by decide)
      have er : ∀ a b, 30 ≤ a → a ≤ 32 → μ a b = ν a b := fun a b q1 q2 => hv0 a b (by omega) (by omega)
      refine am_go (ct := fun pc => Nat.beq pc 9) am_oX2_gapInAllWays 300 ?_
      conv => whnf
      repeat' first
        | (refine (?_ : am_wp _ _ _ _ _ _ _ _ _ _ _ _); conv => whnf)
        | (refine (?_ : am_sw _ _ _ _); conv => whnf)
        | refine And.intro trivial ?_
        | exact trivial
        | (have cN : c < ((fp_3n (ν 29 0).toNat : Nat) : Int) := (by (simp only [cc, cy] at *; first | done | omega)); refine s_deal c (by rw [e29]; exact n0) (by rw [e29]; exact n4) hv1 (by omega) (fun j hj => by rw [e29] at hj; rw [er 30 j (by decide) (by decide), er 31 j (by decide) (by decide), er 32 j (by decide) (by decide)]; exact hb j hj) (fun μ2 g2 t2 o2 b2 => ?_); rw [e29] at t2 o2 ⊢; have e29' : μ2 29 0 = ν 29 0 := (g2 29 0 (by decide) (by decide)).trans e29; have u2 : ∀ q : Nat, (q : Int) < ν 29 0 → μ2 33 q = fp_pt (T q) (S q) (fp_cp (fp_ej c.toNat q)) := (fun q hq => by obtain ⟨h1, h2, h3⟩ := hr q hq; rw [t2 q hq, er 30 q (by decide) (by decide), er 31 q (by decide) (by decide), er 32 q (by decide) (by decide), h1, h2, h3]; exact fp_r3_p (fp_ej_3 _ _)))
        | (refine s_gapZ (by rw [e29']; omega) (by rw [e29']; exact n4) (by rw [e29']; exact o2) ?_; rw [e29'])
        | (have cE : c.toNat = fp_3n (ν 29 0).toNat := (by (simp only [cc, cy] at *; first | done | omega)); refine am_qe (k _ hv0 hv5) ?_)
        | (refine s_outcomes n0 n4 ?_)
        | refine ih _ _ _ _ _ ?_ ?_ ?_ ?_ ?_ ?_ ?_
        | refine And.intro (fun h => absurd h (by decide)) (fun _ => ?_)
        | refine And.intro (fun _ => ?_) (fun h => absurd (by decide) h)
        | refine And.intro (fun _ => ?_) (fun _ => ?_)
        | refine And.intro ?_ ?_
      all_goals (first | omega | (with_reducible assumption) | ((simp only [cc, cy] at *; first | done | omega)) | (intro a b q1 q2; rw [g2 a b q1 q2]; exact hv0 a b q1 q2) | exact b2 hv5 | (rw [show (c + 1).toNat = c.toNat + 1 by omega, hv4, fp_gz_e n4 u2]; rfl) | (rw [hv4, cE]) | decide | assumption | (trace_state; fail))
  have lp9' : ∀ (y w c : Int) (o5 : Option am_V) (μ : am_N) , (∀ a b, a ≠ 33 → a ≠ 34 → μ a b = ν a b) → 0 ≤ c → c ≤ ((fp_3n (ν 29 0).toNat : Nat) : Int) → y = ((fp_3n (ν 29 0).toNat : Nat) : Int) → w = fp_su (fun c : Nat => fp_ew c (ν 29 0).toNat * fp_gz (fun j => fp_pt (T j) (S j) (fp_cp (fp_ej c j))) (ν 29 0)) c.toNat → sx_3 μ 34 → am_AW l 0 (fun _ => 0) 31 Q 9 [some (.inr (.inr 29)), some (.inl y), some (.inl w), some (.inl c), o5] [] μ := fun y w c o5 μ hv0 hv1 hv2 hv3 hv4 hv5 => lp9 ((((fp_3n (ν 29 0).toNat : Nat) : Int) - c) + 1).toNat y w c o5 μ hv0 hv1 hv2 hv3 hv4 hv5 (by omega)
  refine am_go (ct := fun pc => Nat.beq pc 9) am_oX2_gapInAllWays 300 ?_
  conv => whnf
  repeat' first
    | (refine (?_ : am_wp _ _ _ _ _ _ _ _ _ _ _ _); conv => whnf)
    | (refine (?_ : am_sw _ _ _ _); conv => whnf)
    | refine And.intro trivial ?_
    | exact trivial
    | (refine s_outcomes n0 n4 ?_)
    | refine lp9' _ _ _ _ _ ?_ ?_ ?_ ?_ ?_ ?_
    | refine And.intro (fun h => absurd h (by decide)) (fun _ => ?_)
    | refine And.intro (fun _ => ?_) (fun h => absurd (by decide) h)
    | refine And.intro (fun _ => ?_) (fun _ => ?_)
    | refine And.intro ?_ ?_
  all_goals (first | omega | (with_reducible assumption) | rfl | (intros; rfl) | (trace_state; fail))
theorem s_eachOnce {l : Launch} {ν : am_N} {Q : Option am_V → am_N → Prop} (v : Int) (cv : am_c v = v) (v1 : v ≤ 2147483647) (f0 : 0 ≤ ν 1 4) (f1 : ν 1 4 ≤ 4) (k1 : 0 ≤ v → fp_eoB (ν 1 4).toNat v.toNat → Q (some (.inl 1)) ν) (k0 : ¬(0 ≤ v ∧ fp_eoB (ν 1 4).toNat v.toNat) → Q (some (.inl 0)) ν) : am_Does l 15 [.inr (.inr 1), .inl v] ν Q := by
  refine am_Does_of (Nat.le_of_ble_eq_true rfl) (Nat.le_of_ble_eq_true rfl) (Nat.le_of_ble_eq_true rfl) ?_
  have l0 : am_c 0 = 0 := rfl
  have l1 : am_c 1 = 1 := rfl
  have l2 : am_c 2 = 2 := rfl
  have l3 : am_c 3 = 3 := rfl
  have l10 : am_c 10 = 10 := rfl
  have cn : am_c (ν 1 4) = ν 1 4 := am_cR (by omega) (by omega)
  have s1 := fp_s1_b f0 f1
  have en : (((ν 1 4).toNat : Nat) : Int) = ν 1 4 := Int.toNat_of_nonneg f0
  have lp13 : ∀ (m : Nat) (y s p : Int) , 0 ≤ p → p ≤ ν 1 4 → y = ((fp_qt v.toNat p.toNat : Nat) : Int) → s = fp_oc v.toNat p.toNat → 0 ≤ v → ν 1 4 - p < (m : Int) → am_AW l 0 (fun _ => 0) 15 Q 13 [some (.inr (.inr 1)), some (.inl v), some (.inl y), some (.inl s), some (.inl p)] [] ν := by
    intro m
    induction m with
    | zero =>
      intro y s p  hv0 hv1 hv2 hv3 hv4 hm
      exfalso
      omega
    | succ m ih =>
      intro y s p  hv0 hv1 hv2 hv3 hv4 hm
      have cp : am_c p = p := am_cR (by omega) (by omega)
      have yb := fp_qt_l v.toNat p.toNat
      have cy : am_c y = y := am_cR (by omega) (by omega)
      have erem : (am_c y).tmod (am_c 10) = ((fp_dt v.toNat p.toNat : Nat) : Int) := by rw [cy, l10, Int.tmod_eq_emod_of_nonneg (by omega), hv2, fp_qt_d]; omega
      have ediv : (am_c y).tdiv (am_c 10) = ((fp_qt v.toNat (p.toNat + 1) : Nat) : Int) := by rw [cy, l10, Int.tdiv_eq_ediv_of_nonneg (by omega), hv2, fp_qt_s]; omega
      have pE := fun q : ¬ p < ν 1 4 => (show p.toNat = (ν 1 4).toNat by omega)
      refine am_go (ct := fun pc => Nat.beq pc 13) am_oX0_eachOnce 300 ?_
      conv => whnf
      repeat' first
        | (refine (?_ : am_wp _ _ _ _ _ _ _ _ _ _ _ _); conv => whnf)
        | (refine (?_ : am_sw _ _ _ _); conv => whnf)
        | refine And.intro trivial ?_
        | exact trivial
        | refine k1 hv4 ?_
        | refine k0 (fun z => ?_)
        | refine k0 (fun z => ?_)
        | refine ih _ _ _  ?_ ?_ ?_ ?_ ?_ ?_
        | refine And.intro (fun h => absurd h (by decide)) (fun _ => ?_)
        | refine And.intro (fun _ => ?_) (fun h => absurd (by decide) h)
        | refine And.intro (fun _ => ?_) (fun _ => ?_)
        | refine And.intro ?_ ?_
      all_goals (first | omega | (with_reducible assumption) | ((simp only [cp, cn] at *; first | done | omega)) | (rw [show (p + 1).toNat = p.toNat + 1 by omega]; exact ediv) | (rw [show (p + 1).toNat = p.toNat + 1 by omega, erem, hv3]; rfl) | (have pn := pE (by (simp only [cp, cn] at *; first | done | omega)); refine fp_eoB_i.2 ⟨?_, ?_⟩; (rw [← pn]; omega); (rw [← pn, ← hv3, pn, en]; omega)) | (have pn := pE (by (simp only [cp, cn] at *; first | done | omega)); have z3 := fp_eoB_i.1 z.2; have z1 := z3.1; have z2 := z3.2; rw [← pn] at z1; rw [← pn, ← hv3, pn, en] at z2; omega) | decide | assumption | (trace_state; fail))
  have lp13' : ∀ (y s p : Int) , 0 ≤ p → p ≤ ν 1 4 → y = ((fp_qt v.toNat p.toNat : Nat) : Int) → s = fp_oc v.toNat p.toNat → 0 ≤ v → am_AW l 0 (fun _ => 0) 15 Q 13 [some (.inr (.inr 1)), some (.inl v), some (.inl y), some (.inl s), some (.inl p)] [] ν := fun y s p  hv0 hv1 hv2 hv3 hv4 => lp13 ((ν 1 4 - p) + 1).toNat y s p  hv0 hv1 hv2 hv3 hv4 (by omega)
  refine am_go (ct := fun pc => Nat.beq pc 13) am_oX0_eachOnce 300 ?_
  conv => whnf
  repeat' first
    | (refine (?_ : am_wp _ _ _ _ _ _ _ _ _ _ _ _); conv => whnf)
    | (refine (?_ : am_sw _ _ _ _); conv => whnf)
    | refine And.intro trivial ?_
    | exact trivial
    | refine k0 (fun z => ?_)
    | refine lp13' _ _ _  ?_ ?_ ?_ ?_ ?_
    | refine And.intro (fun h => absurd h (by decide)) (fun _ => ?_)
    | refine And.intro (fun _ => ?_) (fun h => absurd (by decide) h)
    | refine And.intro (fun _ => ?_) (fun _ => ?_)
    | refine And.intro ?_ ?_
  all_goals (first | omega | (with_reducible assumption) | rfl | ((simp only [cv, l0] at *; first | done | omega)) | (rw [show (0 : Int).toNat = 0 from rfl, fp_qt_0]; (simp only [cv, l0] at *; first | done | omega)) | (trace_state; fail))
theorem s_ordered {l : Launch} {ν : am_N} {Q : Option am_V → am_N → Prop} (v w : Int) (cv : am_c v = v) (cw : am_c w = w) (hS : sx ν ν) (hw : fp_fw 999 (fv ν 1)) (k : ∀ μ' : am_N, sx ν μ' → Q (some (.inr (.inl (fp_odr (fv ν 1) v w)))) μ') : am_Does l 70 [.inr (.inr 0), .inl v, .inl w] ν Q := by
  refine am_Does_of (Nat.le_of_ble_eq_true rfl) (Nat.le_of_ble_eq_true rfl) (Nat.le_of_ble_eq_true rfl) ?_
  have l0 : am_c 0 = 0 := rfl
  have l1 : am_c 1 = 1 := rfl
  have l2 : am_c 2 = 2 := rfl
  have l3 : am_c 3 = 3 := rfl
  have l10 : am_c 10 = 10 := rfl
  have m1' : am_c (-1) = -1 := rfl
  have m2' : am_c (-2) = -2 := rfl
  have m3' : am_c (-3) = -3 := rfl
  obtain ⟨hf, -, -, -, -, -, hx⟩ := fw_C hw (by decide)
  have f0 := hf.1.1
  have f1 := hf.1.2
  have e4 : fv ν 1 0 4 = ν 1 4 := fv_0 (by decide)
  have al := fp_al2_b f0 f1
  obtain ⟨t, et, ht⟩ := fp_al2_e f0 f1
  have hs : ∀ q : Nat, (q : Int) < ν 1 4 → 0 ≤ ν 5 q ∧ ν 5 q ≤ 20 := fun q hq => (hx q hq).2.2.2
  have ea : fp_al2 (fv ν 1) = am_shl 1 (2 * ν 1 4) := by unfold fp_al2; rw [e4]
  have cA : am_c (am_shl 1 (2 * ν 1 4)) = am_shl 1 (2 * ν 1 4) := am_cR (by omega) (by omega)
  have hrow : ∀ q : Nat, (q : Int) < ν 1 4 → am_TC ν 1 q = fp_tf (fv ν 1) q ∧ ν 5 q = (fv ν 1) 4 q := fun q hq => ⟨fv_T (by omega), (fv_a (μ := ν) (c := 1) (a := 4) (by decide) (by decide) (by omega)).symm⟩
  have ob := fp_oA_b hw v
  have co : am_c (fp_oA (fv ν 1) v) = fp_oA (fv ν 1) v := am_cR (by omega) (by omega)
  have v1 : v ≤ 2147483647 := by rw [← cv]; unfold am_c; omega
  have kk := fun (x : Int) (μ' : am_N) (h : sx ν μ') (e : x = fp_odr (fv ν 1) v w) => am_qd (k μ' h) e
  refine am_go (ct := fun _ => false) am_oX6_ordered 300 ?_
  conv => whnf
  repeat' first
    | (refine (?_ : am_wp _ _ _ _ _ _ _ _ _ _ _ _); conv => whnf)
    | (refine (?_ : am_sw _ _ _ _); conv => whnf)
    | refine And.intro trivial ?_
    | exact trivial
    | refine s_eachOnce v cv v1 f0 f1 (fun y0 y1 => ?_) (fun y => ?_)
    | refine x_refuseLong _ ?_ (fun μr fr => ?_)
    | refine x_noPart _ cw (fun z => ?_) (fun z => ?_)
    | (refine x_draw_1 hf hs (fun μ1 g1 d0 dr => ?_); have sE : sx ν μ1 := sx_dr hS (fun a b q2 q3 _ => g1 a b q2 q3) (by rw [d0]; exact ⟨f0, f1⟩); have hb := fp_rw_b (c := 1) hf hs d0 dr; have p34 : sx_3 μ1 34 := (fun p hp => by rw [g1 34 p (by omega) (by omega)]; exact hS.2.1 p hp); have dr2 : ∀ q : Nat, (q : Int) < μ1 29 0 → μ1 30 q = fp_pt (fp_tf (fv ν 1) q) (fv ν 1 4 q) 0 ∧ μ1 31 q = fp_tf (fv ν 1) q ∧ μ1 32 q = fp_tf (fv ν 1) q + fv ν 1 4 q := (fun q hq => by rw [d0] at hq; have z := dr q hq; rw [(hrow q hq).1, (hrow q hq).2] at z; exact z))
    | (refine s_waysOf v cv (fp_tf (fv ν 1)) ((fv ν 1) 4) (by rw [d0]; exact f0) (by rw [d0]; exact f1) hb dr2 p34 (fun μ2 g2 p2 => ?_); have sG : sx ν μ2 := sx_sd hS (fun a b q1 q2 q3 _ => (g2 a b (by omega) (by omega)).trans (g1 a b (by omega) q3)) p2 (by rw [g2 8 4 (by decide) (by decide), g1 8 4 (by omega) (by omega)]; exact hS.2.2.2.1.1) (by rw [g2 15 4 (by decide) (by decide), g1 15 4 (by omega) (by omega)]; exact hS.2.2.2.1.2.1) (by rw [g2 29 0 (by decide) (by decide), d0]; exact ⟨f0, f1⟩); rw [d0, fp_wD_o e4 f0 f1])
    | (refine s_allWays ?_; rw [g2 29 0 (by decide) (by decide), d0])
    | (rw [co, cA]; refine s_fraction _ _ _ t cw ob.1 (by omega) et ht (by omega) ?_)
    | refine kk _ _ sG ?_
    | refine kk _ _ (sx_78 hS fr) ?_
    | refine And.intro (fun h => absurd h (by decide)) (fun _ => ?_)
    | refine And.intro (fun _ => ?_) (fun h => absurd (by decide) h)
    | refine And.intro (fun _ => ?_) (fun _ => ?_)
    | refine And.intro ?_ ?_
  all_goals (first | decide | omega | (unfold fp_odr; rw [e4, if_pos y]; rfl) | (unfold fp_odr; rw [e4, if_neg (fun h => h ⟨y0, y1⟩), if_pos (by omega)]; rfl) | (unfold fp_odr; rw [e4, if_neg (fun h => h ⟨y0, y1⟩), if_neg (by omega), ea]) | (trace_state; fail))
theorem s_close {l : Launch} {ν : am_N} {Q : Option am_V → am_N → Prop} (x w : Int) (cx : am_c x = x) (cw : am_c w = w) (hS : sx ν ν) (hw : fp_fw 999 (fv ν 1)) (k : ∀ μ' : am_N, sx ν μ' → Q (some (.inr (.inl (fp_clr (fv ν 1) x w)))) μ') : am_Does l 71 [.inr (.inr 0), .inl x, .inl w] ν Q := by
  refine am_Does_of (Nat.le_of_ble_eq_true rfl) (Nat.le_of_ble_eq_true rfl) (Nat.le_of_ble_eq_true rfl) ?_
  have l0 : am_c 0 = 0 := rfl
  have l1 : am_c 1 = 1 := rfl
  have l2 : am_c 2 = 2 := rfl
  have l3 : am_c 3 = 3 := rfl
  have l10 : am_c 10 = 10 := rfl
  have m1' : am_c (-1) = -1 := rfl
  have m2' : am_c (-2) = -2 := rfl
  have m3' : am_c (-3) = -3 := rfl
  obtain ⟨hf, -, -, -, -, -, hx⟩ := fw_C hw (by decide)
  have f0 := hf.1.1
  have f1 := hf.1.2
  have e4 : fv ν 1 0 4 = ν 1 4 := fv_0 (by decide)
  have al := fp_al2_b f0 f1
  obtain ⟨t, et, ht⟩ := fp_al2_e f0 f1
  have hs : ∀ q : Nat, (q : Int) < ν 1 4 → 0 ≤ ν 5 q ∧ ν 5 q ≤ 20 := fun q hq => (hx q hq).2.2.2
  have ea : fp_al2 (fv ν 1) = am_shl 1 (2 * ν 1 4) := by unfold fp_al2; rw [e4]
  have cA : am_c (am_shl 1 (2 * ν 1 4)) = am_shl 1 (2 * ν 1 4) := am_cR (by omega) (by omega)
  have hrow : ∀ q : Nat, (q : Int) < ν 1 4 → am_TC ν 1 q = fp_tf (fv ν 1) q ∧ ν 5 q = (fv ν 1) 4 q := fun q hq => ⟨fv_T (by omega), (fv_a (μ := ν) (c := 1) (a := 4) (by decide) (by decide) (by omega)).symm⟩
  have cn : am_c (ν 1 4) = ν 1 4 := am_cR (by omega) (by omega)
  have gb := fp_gA_b hw
  have cg : am_c (fp_gA (fv ν 1)) = fp_gA (fv ν 1) := am_cR (by omega) (by omega)
  have ub := fp_un_b (F := (fv ν 1)) (by rw [e4]; exact f0) (by rw [e4]; exact f1)
  have cu : am_c (fp_un (fv ν 1)) = fp_un (fv ν 1) := am_cR (by omega) (by omega)
  have u0 := fun z : 1 ≤ ν 1 4 => fp_un_0 (F := (fv ν 1)) (by rw [e4]; exact z)
  have kk := fun (x' : Int) (μ' : am_N) (h : sx ν μ') (e : x' = fp_clr (fv ν 1) x w) => am_qd (k μ' h) e
  refine am_go (ct := fun _ => false) am_oX6_close 300 ?_
  conv => whnf
  repeat' first
    | (refine (?_ : am_wp _ _ _ _ _ _ _ _ _ _ _ _); conv => whnf)
    | (refine (?_ : am_sw _ _ _ _); conv => whnf)
    | refine And.intro trivial ?_
    | exact trivial
    | (have _q := z; refine x_noPart w cw (fun y => ?_) (fun y => ?_))
    | refine x_noPart x cx (fun z => ?_) (fun z => ?_)
    | refine x_refuseLong _ ?_ (fun μr fr => ?_)
    | (have n2 : 2 ≤ ν 1 4 := (by (simp only [cn, l2] at *; first | done | omega)); refine x_draw_1 hf hs (fun μ1 g1 d0 dr => ?_); have sE : sx ν μ1 := sx_dr hS (fun a b q2 q3 _ => g1 a b q2 q3) (by rw [d0]; exact ⟨f0, f1⟩); have hb := fp_rw_b (c := 1) hf hs d0 dr; have p34 : sx_3 μ1 34 := (fun p hp => by rw [g1 34 p (by omega) (by omega)]; exact hS.2.1 p hp); have dr2 : ∀ q : Nat, (q : Int) < μ1 29 0 → μ1 30 q = fp_pt (fp_tf (fv ν 1) q) (fv ν 1 4 q) 0 ∧ μ1 31 q = fp_tf (fv ν 1) q ∧ μ1 32 q = fp_tf (fv ν 1) q + fv ν 1 4 q := (fun q hq => by rw [d0] at hq; have z := dr q hq; rw [(hrow q hq).1, (hrow q hq).2] at z; exact z))
    | (refine s_gapAll (fp_tf (fv ν 1)) ((fv ν 1) 4) (by rw [d0]; exact f0) (by rw [d0]; omega) (by rw [d0]; exact f1) hb dr2 p34 (fun μ2 g2 p2 => ?_); have sG : sx ν μ2 := sx_sd hS (fun a b q1 q2 q3 _ => (g2 a b (by omega) (by omega)).trans (g1 a b (by omega) q3)) p2 (by rw [g2 8 4 (by decide) (by decide), g1 8 4 (by omega) (by omega)]; exact hS.2.2.2.1.1) (by rw [g2 15 4 (by decide) (by decide), g1 15 4 (by omega) (by omega)]; exact hS.2.2.2.1.2.1) (by rw [g2 29 0 (by decide) (by decide), d0]; exact ⟨f0, f1⟩); rw [d0, ← fp_t34' (fp_tf (fv ν 1)) ((fv ν 1) 4) (ν 1 4).toNat (by omega) (fun t => fp_gz t (ν 1 4)) (fun t u h => fp_gz_e f1 (fun q hq => h q (by omega))), show fp_su (fun k => fp_gz (fun j => fp_pt (fp_tf (fv ν 1) j) ((fv ν 1) 4 j) (fp_dj k j)) (ν 1 4)) (4 ^ (ν 1 4).toNat) = fp_gA (fv ν 1) from (by unfold fp_gA; rw [e4]; rfl)])
    | (refine x_uneven (fv ν 1) (by rw [d0]; exact f0) (by rw [d0]; exact f1) (by rw [d0]; exact e4) hb (fun r hr => fp_lw_C1 f1 (by rw [d0] at hr; exact hr) d0 dr) ?_)
    | (refine s_allWays ?_; first | rw [g2 29 0 (by decide) (by decide), d0] | rw [d0])
    | (rw [cg, cA]; refine s_fraction _ _ _ t cw gb.1 (by omega) et ht (by omega) ?_)
    | refine kk _ _ sG ?_
    | (rw [cu, cA]; refine s_fraction _ _ _ t cw (u0 (by omega)) (by omega) et ht (by omega) ?_)
    | refine kk _ _ sE ?_
    | refine kk _ _ (sx_78 hS fr) ?_
    | refine And.intro (fun h => absurd h (by decide)) (fun _ => ?_)
    | refine And.intro (fun _ => ?_) (fun h => absurd (by decide) h)
    | refine And.intro (fun _ => ?_) (fun _ => ?_)
    | refine And.intro ?_ ?_
  all_goals (first | decide | omega | (unfold fp_clr; rw [if_pos (by omega)]; rfl) | (unfold fp_clr; rw [if_neg (by omega), e4, if_pos (by (simp only [cn, l2] at *; first | done | omega))]; rfl) | (unfold fp_clr; rw [if_neg (by omega), e4, if_neg (by (simp only [cn, l2] at *; first | done | omega))]; first | (rw [if_pos (by (simp only [cx, l0] at *; first | done | omega)), ea]) | (rw [if_neg (by (simp only [cx, l0] at *; first | done | omega)), ea])) | (trace_state; fail))
theorem n_isOrder {l : Launch} {ν : am_N} {Q : Option am_V → am_N → Prop} (v : Int) (cv : am_c v = v) (v1 : v ≤ 2147483647) (f0 : 0 ≤ ν 83 14) (f1 : ν 83 14 ≤ 4) (k1 : 0 ≤ v → fp_eo (ν 83 14).toNat v.toNat → Q (some (.inl 1)) ν) (k0 : ¬(0 ≤ v ∧ fp_eo (ν 83 14).toNat v.toNat) → Q (some (.inl 0)) ν) : am_Does l 187 [.inr (.inr 83), .inl v] ν Q := by
  refine am_Does_of (Nat.le_of_ble_eq_true rfl) (Nat.le_of_ble_eq_true rfl) (Nat.le_of_ble_eq_true rfl) ?_
  have l0 : am_c 0 = 0 := rfl
  have l1 : am_c 1 = 1 := rfl
  have l2 : am_c 2 = 2 := rfl
  have l3 : am_c 3 = 3 := rfl
  have l10 : am_c 10 = 10 := rfl
  have cn : am_c (ν 83 14) = ν 83 14 := am_cR (by omega) (by omega)
  have lp7 : ∀ (m : Nat) (y s p : Int) (o5 : Option am_V) , 0 ≤ p → p ≤ ν 83 14 → (0 ≤ v → y = ((fp_qt v.toNat p.toNat : Nat) : Int) ∧ s = fp_oc v.toNat p.toNat ∧ (∀ q : Nat, q < p.toNat → fp_dt v.toNat q < (ν 83 14).toNat) ∧ ∀ a b : Nat, a < b → b < p.toNat → fp_dt v.toNat a ≠ fp_dt v.toNat b) → ν 83 14 - p < (m : Int) → am_AW l 0 (fun _ => 0) 187 Q 7 [some (.inr (.inr 83)), some (.inl v), some (.inl y), some (.inl s), some (.inl p), o5] [] ν := by
    intro m
    induction m with
    | zero =>
      intro y s p o5  hv0 hv1 hv2 hm
      exfalso
      omega
    | succ m ih =>
      intro y s p o5  hv0 hv1 hv2 hm
      have cp : am_c p = p := am_cR (by omega) (by omega)
      have yb := fp_qt_l v.toNat p.toNat
      have cy : 0 ≤ v → am_c y = y := fun z => by have h := (hv2 z).1; exact am_cR (by omega) (by omega)
      have erem : 0 ≤ v → (am_c y).tmod (am_c 10) = ((fp_dt v.toNat p.toNat : Nat) : Int) := fun z => by have h := (hv2 z).1; rw [cy z, l10, Int.tmod_eq_emod_of_nonneg (by omega), h, fp_qt_d]; omega
      have ediv : 0 ≤ v → (am_c y).tdiv (am_c 10) = ((fp_qt v.toNat (p.toNat + 1) : Nat) : Int) := fun z => by have h := (hv2 z).1; rw [cy z, l10, Int.tdiv_eq_ediv_of_nonneg (by omega), h, fp_qt_s]; omega
      have ts := fp_dt_t v.toNat p.toNat
      have cdt : am_c (((fp_dt v.toNat p.toNat : Nat) : Int)) = ((fp_dt v.toNat p.toNat : Nat) : Int) := am_cR (by omega) (by omega)
      have bitF := fun (z : 0 ≤ v) (q : p.toNat < (ν 83 14).toNat) (d : fp_dt v.toNat p.toNat < (ν 83 14).toNat) => (show am_c (am_and (am_shr s ((am_c y).tmod (am_c 10))) 1) = 1 ↔ ∃ q : Nat, q < p.toNat ∧ fp_dt v.toNat q = fp_dt v.toNat p.toNat by
        have hh := hv2 z
        have ob := fp_oc_b (v := v.toNat) (n := (ν 83 14).toNat) (by omega) p.toNat hh.2.2.1
        have cb := fp_bitc (x := fp_oc v.toNat p.toNat) (d := ((fp_dt v.toNat p.toNat : Nat) : Int)) ob.1 ob.2 (by omega) (by omega)
        have bm := fp_bitM (v := v.toNat) (p := p.toNat) (d := fp_dt v.toNat p.toNat) (by omega) (fun q hq => by have w := hh.2.2.1 q hq; omega) (by omega)
        rw [erem z, hh.2.1, cb]
        exact bm)
      refine am_go (ct := fun pc => Nat.beq pc 7) am_oX7_isOrder 300 ?_
      conv => whnf
      repeat' first
        | (refine (?_ : am_wp _ _ _ _ _ _ _ _ _ _ _ _); conv => whnf)
        | (refine (?_ : am_sw _ _ _ _); conv => whnf)
        | refine And.intro trivial ?_
        | exact trivial
        | (refine x_isRunnerT _ f0 f1 (fun y0 y1 => ?_) (fun yn => ?_))
        | (have v0 : 0 ≤ v := (by (simp only [cv, l0] at *; first | done | omega)); have hh := hv2 v0; have pE : p.toNat = (ν 83 14).toNat := (by (simp only [cp, cn] at *; first | done | omega)); (first | have cy := cy v0 | skip); refine k1 v0 (fun _ => ⟨?_, ?_, ?_⟩))
        | refine k0 (fun z => ?_)
        | refine ih _ _ _ _  ?_ ?_ ?_ ?_
        | refine And.intro (fun h => absurd h (by decide)) (fun _ => ?_)
        | refine And.intro (fun _ => ?_) (fun h => absurd (by decide) h)
        | refine And.intro (fun _ => ?_) (fun _ => ?_)
        | refine And.intro ?_ ?_
      all_goals (first | omega | (with_reducible assumption) | ((simp only [cp, cn] at *; first | done | omega)) | (rw [← pE]; have h1 := hh.1; (simp only [cy, l0] at *; first | done | omega)) | (intro q hq; exact hh.2.2.1 q (by omega)) | (intro a b h1 h2; exact hh.2.2.2 a b h1 (by omega)) | (exfalso; have zv := z.1; have er := erem zv; rw [er, cdt] at yn; have zd := (z.2 ()).2.1 p.toNat (by (simp only [cp, cn] at *; first | done | omega)); omega) | (have zv := z.1; have C := z.2 (); have pN : p.toNat < (ν 83 14).toNat := (by (simp only [cp, cn] at *; first | done | omega)); have hb : am_c (am_and (am_shr s ((am_c y).tmod (am_c 10))) 1) = am_c 1 := (by assumption); obtain ⟨q, q1, q2⟩ := (bitF zv pN (C.2.1 p.toNat pN)).1 hb; exact C.2.2 q p.toNat q1 pN q2) | (intro zv; have hh := hv2 zv; have pN : p.toNat < (ν 83 14).toNat := (by (simp only [cp, cn] at *; first | done | omega)); have dl : fp_dt v.toNat p.toNat < (ν 83 14).toNat := (by have a0 := y0; have a1 := y1; rw [erem zv, cdt] at a0 a1; omega); have bF := bitF zv pN dl; have nb : ¬ am_c (am_and (am_shr s ((am_c y).tmod (am_c 10))) 1) = am_c 1 := (by assumption); rw [show (p + 1).toNat = p.toNat + 1 by omega]; refine ⟨ediv zv, ?_, fun q hq => ?_, fun a b h1 h2 => ?_⟩; (rw [erem zv, hh.2.1]; rfl); (by_cases d : q = p.toNat; (rw [d]; exact dl); (exact hh.2.2.1 q (by omega))); (by_cases d : b = p.toNat; (rw [d]; intro e; exact nb (bF.2 ⟨a, by omega, e⟩)); (exact hh.2.2.2 a b h1 (by omega)))) | (have zv := z.1; have hh := hv2 zv; (first | have cy := cy zv | skip); have pE : p.toNat = (ν 83 14).toNat := (by (simp only [cp, cn] at *; first | done | omega)); have z1 := (z.2 ()).1; rw [← pE] at z1; have h1 := hh.1; (simp only [cy, l0] at *; first | done | omega)) | (have zv := z.1; (simp only [cv, l0] at *; first | done | omega)) | decide | assumption | (trace_state; fail))
  have lp7' : ∀ (y s p : Int) (o5 : Option am_V) , 0 ≤ p → p ≤ ν 83 14 → (0 ≤ v → y = ((fp_qt v.toNat p.toNat : Nat) : Int) ∧ s = fp_oc v.toNat p.toNat ∧ (∀ q : Nat, q < p.toNat → fp_dt v.toNat q < (ν 83 14).toNat) ∧ ∀ a b : Nat, a < b → b < p.toNat → fp_dt v.toNat a ≠ fp_dt v.toNat b) → am_AW l 0 (fun _ => 0) 187 Q 7 [some (.inr (.inr 83)), some (.inl v), some (.inl y), some (.inl s), some (.inl p), o5] [] ν := fun y s p o5  hv0 hv1 hv2 => lp7 ((ν 83 14 - p) + 1).toNat y s p o5  hv0 hv1 hv2 (by omega)
  refine am_go (ct := fun pc => Nat.beq pc 7) am_oX7_isOrder 300 ?_
  conv => whnf
  repeat' first
    | (refine (?_ : am_wp _ _ _ _ _ _ _ _ _ _ _ _); conv => whnf)
    | (refine (?_ : am_sw _ _ _ _); conv => whnf)
    | refine And.intro trivial ?_
    | exact trivial
    | refine lp7' _ _ _ _  ?_ ?_ ?_
    | refine And.intro (fun h => absurd h (by decide)) (fun _ => ?_)
    | refine And.intro (fun _ => ?_) (fun h => absurd (by decide) h)
    | refine And.intro (fun _ => ?_) (fun _ => ?_)
    | refine And.intro ?_ ?_
  all_goals (first | omega | (with_reducible assumption) | rfl | (intro z; refine ⟨?_, rfl, fun q hq => absurd hq (by omega), fun a b h1 h2 => absurd h2 (by omega)⟩; rw [show (0 : Int).toNat = 0 from rfl, fp_qt_0]; omega) | (trace_state; fail))
theorem n_ordered {l : Launch} {ν : am_N} {Q : Option am_V → am_N → Prop} (v w : Int) (cv : am_c v = v) (cw : am_c w = w) (hm : mi ν) (hw : fp_fw 999 (mv ν)) (k : ∀ μ' : am_N, gm ms ν μ' → Q (some (.inr (.inl (fp_odr (mv ν) v w)))) μ') : am_Does l 188 [.inr (.inr 83), .inl v, .inl w] ν Q := by
  refine am_Does_of (Nat.le_of_ble_eq_true rfl) (Nat.le_of_ble_eq_true rfl) (Nat.le_of_ble_eq_true rfl) ?_
  have l0 : am_c 0 = 0 := rfl
  have l1 : am_c 1 = 1 := rfl
  have l2 : am_c 2 = 2 := rfl
  have l3 : am_c 3 = 3 := rfl
  have l10 : am_c 10 = 10 := rfl
  have m1' : am_c (-1) = -1 := rfl
  have m2' : am_c (-2) = -2 := rfl
  have m3' : am_c (-3) = -3 := rfl
  have hm0 := hm
  obtain ⟨hf, -, -, -, -, -, hx⟩ := fw_M hw (by decide)
  have f0 := hf.1.1
  have f1 := hf.1.2
  have e4 : mv ν 0 4 = ν 83 14 := rfl
  have al := fp_al2_b f0 f1
  have eA := fp_al2_n f0 f1
  have hs : ∀ q : Nat, (q : Int) < ν 83 14 → 0 ≤ ν 88 q ∧ ν 88 q ≤ 20 := fun q hq => (hx q hq).2.2.2
  have ea : fp_al2 (mv ν) = am_shl 1 (2 * ν 83 14) := rfl
  have cA : am_c (am_shl 1 (2 * ν 83 14)) = am_shl 1 (2 * ν 83 14) := am_cR (by omega) (by omega)
  have p256 := (fp_p4 f0 f1).1
  have cn : am_c (ν 83 14) = ν 83 14 := am_cR (by omega) (by omega)
  have ob := fp_oA_b hw v
  have co : am_c (fp_oA (mv ν) v) = fp_oA (mv ν) v := am_cR (by omega) (by omega)
  have v1 : v ≤ 2147483647 := by rw [← cv]; unfold am_c; omega
  have kk := fun (x : Int) (μ' : am_N) (h : gm ms ν μ') (e : x = fp_odr (mv ν) v w) => am_qd (k μ' h) e
  have lp35 : ∀ (m : Nat) (s i : Int) (μ : am_N) , (∀ a b, a ≠ 99 → a ≠ 100 → μ a b = ν a b) → sx_3 μ 100 → 0 ≤ i → i ≤ am_shl 1 (2 * ν 83 14) → s = fp_su (fun k => fp_dA (fp_tp (mv ν) k) (ν 83 14) v) i.toNat → 0 ≤ v → fp_eo (ν 83 14).toNat v.toNat → (w = 0 ∨ w = 1) → am_shl 1 (2 * ν 83 14) - i < (m : Int) → am_AW l 0 (fun _ => 0) 188 Q 35 [some (.inr (.inr 83)), some (.inl v), some (.inl w), some (.inl s), some (.inl i)] [] μ := by
    intro m
    induction m with
    | zero =>
      intro s i μ hv0 hv1 hv2 hv3 hv4 hv5 hv6 hv7 hm
      exfalso
      omega
    | succ m ih =>
      intro s i μ hv0 hv1 hv2 hv3 hv4 hv5 hv6 hv7 hm
      have ci : am_c i = i := am_cR (by omega) (by omega)
      have n8 : μ 83 14 = ν 83 14 := hv0 83 14 (by decide) (by decide)
      obtain ⟨h1, h2⟩ := am_fM_e hv0
      have h3 := h1 hf
      have hE : gm ms ν μ := ⟨mi_rc hm0 (fun a b q => hv0 a b (by omega) (by omega)) hv1, fun a b ha => hv0 a b (fun z => by rw [z] at ha; cases ha) (fun z => by rw [z] at ha; cases ha)⟩
      refine am_go (ct := fun pc => Nat.beq pc 35) am_oX7_ordered 300 ?_
      conv => whnf
      repeat' first
        | (refine (?_ : am_wp _ _ _ _ _ _ _ _ _ _ _ _); conv => whnf)
        | (refine (?_ : am_sw _ _ _ _); conv => whnf)
        | refine And.intro trivial ?_
        | exact trivial
        | (refine n_races ?_; rw [n8])
        | (have iN : i < am_shl 1 (2 * ν 83 14) := (by rw [n8] at *; (simp only [ci, cA] at *; first | done | omega)); refine x_takesParts i h3 (fun q hq => by rw [hv0 88 q (by decide) (by decide)]; exact hs q (by rw [n8] at hq; exact hq)) hv2 (by omega) (fun μ2 y1 y2 y3 y4 => ?_); rw [n8] at y2 y3; have m8 : μ2 83 14 = ν 83 14 := (y1 83 14 (by decide) (by decide)).trans n8; have u2 : ∀ q : Nat, (q : Int) < ν 83 14 → fp_pt (am_TM μ q) (μ 88 q) (fp_dj i.toNat q) = fp_tp (mv ν) i.toNat q := (fun q hq => by rw [h2, hv0 88 q (by decide) (by decide), mv_T (by omega), ← show mv ν 4 q = ν 88 q from mv_a (a := 3) (by decide) (by omega)]; rfl); have f2 : ∀ a b, a ≠ 99 → a ≠ 100 → μ2 a b = ν a b := (fun a b q1 q2 => (y1 a b q1 q2).trans (hv0 a b q1 q2)))
        | (refine x_mdigits (by rw [m8]; exact f0) (by rw [m8]; exact f1) ?_; rw [m8])
        | (have iE : i.toNat = 4 ^ (ν 83 14).toNat := (by (simp only [ci, cA] at *; first | done | omega)); have sE : s = fp_oA (mv ν) v := (by rw [hv4, iE]; rfl); rw [sE, co, cA]; refine n_partOf _ _ _ cw ob.1 (by omega) (by omega) (by omega) ?_)
        | refine kk _ _ hE ?_
        | refine n_isOrder v cv v1 f0 f1 (fun y0 y1 => ?_) (fun y => ?_)
        | refine x_isIn w _ _ _ rfl cw ?_ ?_ (fun _ _ => ?_) (fun _ => ?_)
        | refine x_lowest _ ?_ (fun μr fr => ?_)
        | refine kk _ _ (mi_84 hm fr) ?_
        | refine And.intro (fun h => absurd h (by omega)) (fun _ => ?_)
        | refine And.intro (fun _ => ?_) (fun h => absurd h (by omega))
        | refine ih _ _ _ ?_ ?_ ?_ ?_ ?_ ?_ ?_ ?_ ?_
        | refine And.intro (fun h => absurd h (by decide)) (fun _ => ?_)
        | refine And.intro (fun _ => ?_) (fun h => absurd (by decide) h)
        | refine And.intro (fun _ => ?_) (fun _ => ?_)
        | refine And.intro ?_ ?_
      all_goals (first | omega | (with_reducible assumption) | (intro a b q1 q2; exact f2 a b q1 q2) | exact y4 hv1 | (have ed : am_dg (μ2 100) (ν 83 14).toNat 0 = am_dg (fun p => fp_od (fp_tp (mv ν) i.toNat) (ν 83 14) (p : Int)) (ν 83 14).toNat 0 := am_dg_eq _ _ (fun p hp => by rw [fp_od_o f1 y2 p (by omega)]; exact fp_od_i2 f1 (by omega) u2); have xx : am_c (am_dg (μ2 100) (ν 83 14).toNat 0) = am_dg (fun p => fp_od (fp_tp (mv ν) i.toNat) (ν 83 14) (p : Int)) (ν 83 14).toNat 0 := (by rw [ed]; exact am_dg_c f1 (fp_od (fp_tp (mv ν) i.toNat) (ν 83 14)) (fun p => fp_od_b _ _ _)); rw [show (i + 1).toNat = i.toNat + 1 by omega]; show _ = fp_su (fun k => fp_dA (fp_tp (mv ν) k) (ν 83 14) v) i.toNat + (if am_dg (fun p => fp_od (fp_tp (mv ν) i.toNat) (ν 83 14) (p : Int)) (ν 83 14).toNat 0 = v then 1 else 0); first | (rw [if_pos (by omega)]; omega) | (rw [if_neg (by omega)]; omega)) | (unfold fp_odr; rw [e4, if_neg (fun h => h ⟨hv5, (fp_eoI (by omega)).2 hv6⟩), if_neg (by omega), ea]) | decide | assumption | (trace_state; fail))
  have lp35' : ∀ (s i : Int) (μ : am_N) , (∀ a b, a ≠ 99 → a ≠ 100 → μ a b = ν a b) → sx_3 μ 100 → 0 ≤ i → i ≤ am_shl 1 (2 * ν 83 14) → s = fp_su (fun k => fp_dA (fp_tp (mv ν) k) (ν 83 14) v) i.toNat → 0 ≤ v → fp_eo (ν 83 14).toNat v.toNat → (w = 0 ∨ w = 1) → am_AW l 0 (fun _ => 0) 188 Q 35 [some (.inr (.inr 83)), some (.inl v), some (.inl w), some (.inl s), some (.inl i)] [] μ := fun s i μ hv0 hv1 hv2 hv3 hv4 hv5 hv6 hv7 => lp35 ((am_shl 1 (2 * ν 83 14) - i) + 1).toNat s i μ hv0 hv1 hv2 hv3 hv4 hv5 hv6 hv7 (by omega)
  refine am_go (ct := fun pc => Nat.beq pc 35) am_oX7_ordered 300 ?_
  conv => whnf
  repeat' first
    | (refine (?_ : am_wp _ _ _ _ _ _ _ _ _ _ _ _); conv => whnf)
    | (refine (?_ : am_sw _ _ _ _); conv => whnf)
    | refine And.intro trivial ?_
    | exact trivial
    | refine n_isOrder v cv v1 f0 f1 (fun y0 y1 => ?_) (fun y => ?_)
    | refine x_isIn w _ _ _ rfl cw ?_ ?_ (fun _ _ => ?_) (fun _ => ?_)
    | refine x_lowest _ ?_ (fun μr fr => ?_)
    | refine kk _ _ (mi_84 hm fr) ?_
    | refine And.intro (fun h => absurd h (by omega)) (fun _ => ?_)
    | refine And.intro (fun _ => ?_) (fun h => absurd h (by omega))
    | refine lp35' _ _ _ ?_ ?_ ?_ ?_ ?_ ?_ ?_ ?_
    | refine And.intro (fun h => absurd h (by decide)) (fun _ => ?_)
    | refine And.intro (fun _ => ?_) (fun h => absurd (by decide) h)
    | refine And.intro (fun _ => ?_) (fun _ => ?_)
    | refine And.intro ?_ ?_
  all_goals (first | omega | (with_reducible assumption) | rfl | (intros; rfl) | (intro p hp; exact mi_or hm0 p hp) | (unfold fp_odr; rw [e4, if_pos (fun h => y ⟨h.1, (fp_eoI (by omega)).1 h.2⟩)]; rfl) | (unfold fp_odr; rw [e4, if_neg (fun h => h ⟨y0, (fp_eoI (by omega)).2 y1⟩), if_pos (by omega)]; rfl) | (trace_state; fail))
theorem n_close {l : Launch} {ν : am_N} {Q : Option am_V → am_N → Prop} (x w : Int) (cx : am_c x = x) (cw : am_c w = w) (hm : mi ν) (hw : fp_fw 999 (mv ν)) (k : ∀ μ' : am_N, gm ms ν μ' → Q (some (.inr (.inl (fp_clr (mv ν) x w)))) μ') : am_Does l 190 [.inr (.inr 83), .inl x, .inl w] ν Q := by
  refine am_Does_of (Nat.le_of_ble_eq_true rfl) (Nat.le_of_ble_eq_true rfl) (Nat.le_of_ble_eq_true rfl) ?_
  have l0 : am_c 0 = 0 := rfl
  have l1 : am_c 1 = 1 := rfl
  have l2 : am_c 2 = 2 := rfl
  have l3 : am_c 3 = 3 := rfl
  have l10 : am_c 10 = 10 := rfl
  have m1' : am_c (-1) = -1 := rfl
  have m2' : am_c (-2) = -2 := rfl
  have m3' : am_c (-3) = -3 := rfl
  have hm0 := hm
  obtain ⟨hf, -, -, -, -, -, hx⟩ := fw_M hw (by decide)
  have f0 := hf.1.1
  have f1 := hf.1.2
  have e4 : mv ν 0 4 = ν 83 14 := rfl
  have al := fp_al2_b f0 f1
  have eA := fp_al2_n f0 f1
  have hs : ∀ q : Nat, (q : Int) < ν 83 14 → 0 ≤ ν 88 q ∧ ν 88 q ≤ 20 := fun q hq => (hx q hq).2.2.2
  have ea : fp_al2 (mv ν) = am_shl 1 (2 * ν 83 14) := rfl
  have cA : am_c (am_shl 1 (2 * ν 83 14)) = am_shl 1 (2 * ν 83 14) := am_cR (by omega) (by omega)
  have p256 := (fp_p4 f0 f1).1
  have cn : am_c (ν 83 14) = ν 83 14 := am_cR (by omega) (by omega)
  have gb := fp_gA_b hw
  have ub := fp_un_b (F := (mv ν)) f0 f1
  have cu : am_c (fp_un (mv ν)) = fp_un (mv ν) := am_cR (by omega) (by omega)
  have u0 := fun z : 1 ≤ ν 83 14 => fp_un_0 (F := (mv ν)) z
  have kk := fun (x' : Int) (μ' : am_N) (h : gm ms ν μ') (e : x' = fp_clr (mv ν) x w) => am_qd (k μ' h) e
  have lp74 : ∀ (m : Nat) (s i : Int) (μ : am_N) , (∀ a b, a ≠ 99 → a ≠ 100 → μ a b = ν a b) → sx_3 μ 100 → 0 ≤ i → i ≤ am_shl 1 (2 * ν 83 14) → s = fp_su (fun k => fp_gz (fp_tp (mv ν) k) (ν 83 14)) i.toNat → x = 0 → (w = 0 ∨ w = 1) → 2 ≤ ν 83 14 → am_shl 1 (2 * ν 83 14) - i < (m : Int) → am_AW l 0 (fun _ => 0) 190 Q 74 [some (.inr (.inr 83)), some (.inl x), some (.inl w), some (.inl 0), some (.inr (.inl s)), none, some (.inl i)] [] μ := by
    intro m
    induction m with
    | zero =>
      intro s i μ hv0 hv1 hv2 hv3 hv4 hv5 hv6 hv7 hm
      exfalso
      omega
    | succ m ih =>
      intro s i μ hv0 hv1 hv2 hv3 hv4 hv5 hv6 hv7 hm
      have ci : am_c i = i := am_cR (by omega) (by omega)
      have n8 : μ 83 14 = ν 83 14 := hv0 83 14 (by decide) (by decide)
      obtain ⟨h1, h2⟩ := am_fM_e hv0
      have h3 := h1 hf
      have hE : gm ms ν μ := ⟨mi_rc hm0 (fun a b q => hv0 a b (by omega) (by omega)) hv1, fun a b ha => hv0 a b (fun z => by rw [z] at ha; cases ha) (fun z => by rw [z] at ha; cases ha)⟩
      refine am_go (ct := fun pc => Nat.beq pc 74) am_oX7_close 300 ?_
      conv => whnf
      repeat' first
        | (refine (?_ : am_wp _ _ _ _ _ _ _ _ _ _ _ _); conv => whnf)
        | (refine (?_ : am_sw _ _ _ _); conv => whnf)
        | refine And.intro trivial ?_
        | exact trivial
        | (refine n_races ?_; rw [n8])
        | (have iN : i < am_shl 1 (2 * ν 83 14) := (by rw [n8] at *; (simp only [ci, cA] at *; first | done | omega)); refine x_takesParts i h3 (fun q hq => by rw [hv0 88 q (by decide) (by decide)]; exact hs q (by rw [n8] at hq; exact hq)) hv2 (by omega) (fun μ2 y1 y2 y3 y4 => ?_); rw [n8] at y2 y3; have m8 : μ2 83 14 = ν 83 14 := (y1 83 14 (by decide) (by decide)).trans n8; have u2 : ∀ q : Nat, (q : Int) < ν 83 14 → fp_pt (am_TM μ q) (μ 88 q) (fp_dj i.toNat q) = fp_tp (mv ν) i.toNat q := (fun q hq => by rw [h2, hv0 88 q (by decide) (by decide), mv_T (by omega), ← show mv ν 4 q = ν 88 q from mv_a (a := 3) (by decide) (by omega)]; rfl); have f2 : ∀ a b, a ≠ 99 → a ≠ 100 → μ2 a b = ν a b := (fun a b q1 q2 => (y1 a b q1 q2).trans (hv0 a b q1 q2)))
        | (have T := fp_tp (mv ν) i.toNat; have b0 := fp_od_b (fp_tp (mv ν) i.toNat) (ν 83 14) 0; have b1 := fp_od_b (fp_tp (mv ν) i.toNat) (ν 83 14) 1; have o0 : fp_od (fp_tp (mv ν) i.toNat) (ν 83 14) 0 < ν 83 14 := fp_od_n f1 (by decide) (by omega); have o1 : fp_od (fp_tp (mv ν) i.toNat) (ν 83 14) 1 < ν 83 14 := fp_od_n f1 (by decide) (by omega); have gz := fp_gz_b f1 (fp_tp_b hw i.toNat) (by decide); have eg : fp_tp (mv ν) i.toNat (fp_od (fp_tp (mv ν) i.toNat) (ν 83 14) 1).toNat - fp_tp (mv ν) i.toNat (fp_od (fp_tp (mv ν) i.toNat) (ν 83 14) 0).toNat = fp_gz (fp_tp (mv ν) i.toNat) (ν 83 14) := (if_pos (by omega : 1 < ν 83 14)).symm; have cz : am_c (fp_gz (fp_tp (mv ν) i.toNat) (ν 83 14)) = fp_gz (fp_tp (mv ν) i.toNat) (ν 83 14) := am_cR (by omega) (by omega); refine n_gap (fp_od (fp_tp (mv ν) i.toNat) (ν 83 14) 0) (fp_od (fp_tp (mv ν) i.toNat) (ν 83 14) 1) ((fp_od_o f1 y2 0 (by omega)).trans (fp_od_i2 (p := 0) f1 (by omega) u2)) ((fp_od_o f1 y2 1 (by omega)).trans (fp_od_i2 (p := 1) f1 (by omega) u2)) (by omega) (by omega) (by omega) (by omega) ?_; rw [y3 _ (by omega), y3 _ (by omega), u2 _ (by omega), u2 _ (by omega), eg])
        | (have iE : i.toNat = 4 ^ (ν 83 14).toNat := (by (simp only [ci, cA] at *; first | done | omega)); have sE : s = fp_gA (mv ν) := (by rw [hv4, iE]; rfl); rw [sE, cA]; refine n_partOf _ _ _ cw gb.1 (by omega) (by omega) (by omega) ?_)
        | refine kk _ _ hE ?_
        | (have _q := zx; refine x_isIn w _ _ _ rfl cw ?_ ?_ (fun _ _ => ?_) (fun _ => ?_))
        | refine x_isIn x _ _ _ rfl cx ?_ ?_ (fun zx _ => ?_) (fun _ => ?_)
        | refine x_lowest _ ?_ (fun μr fr => ?_)
        | (have n2 : 2 ≤ ν 83 14 := (by (simp only [cn, l2] at *; first | done | omega)); refine n_uneven hm0 hw (fun μ1 h1 g1 => ?_))
        | (refine n_races ?_; rw [g1 83 14 (by decide) (by decide) (by decide)])
        | (rw [cu, cA]; refine n_partOf _ _ _ cw (u0 (by omega)) (by omega) (by omega) (by omega) ?_)
        | refine kk _ _ h1 ?_
        | refine kk _ _ (mi_84 hm fr) ?_
        | refine And.intro (fun h => absurd h (by omega)) (fun _ => ?_)
        | refine And.intro (fun _ => ?_) (fun h => absurd h (by omega))
        | refine ih _ _ _ ?_ ?_ ?_ ?_ ?_ ?_ ?_ ?_ ?_
        | refine And.intro (fun h => absurd h (by decide)) (fun _ => ?_)
        | refine And.intro (fun _ => ?_) (fun h => absurd (by decide) h)
        | refine And.intro (fun _ => ?_) (fun _ => ?_)
        | refine And.intro ?_ ?_
      all_goals (first | omega | (with_reducible assumption) | (intro a b q1 q2; exact f2 a b q1 q2) | exact y4 hv1 | (rw [cz, show (i + 1).toNat = i.toNat + 1 by omega, hv4]; rfl) | (unfold fp_clr; rw [if_neg (by omega), e4, if_neg (by omega), if_pos hv5, ea]) | decide | assumption | (trace_state; fail))
  have lp74' : ∀ (s i : Int) (μ : am_N) , (∀ a b, a ≠ 99 → a ≠ 100 → μ a b = ν a b) → sx_3 μ 100 → 0 ≤ i → i ≤ am_shl 1 (2 * ν 83 14) → s = fp_su (fun k => fp_gz (fp_tp (mv ν) k) (ν 83 14)) i.toNat → x = 0 → (w = 0 ∨ w = 1) → 2 ≤ ν 83 14 → am_AW l 0 (fun _ => 0) 190 Q 74 [some (.inr (.inr 83)), some (.inl x), some (.inl w), some (.inl 0), some (.inr (.inl s)), none, some (.inl i)] [] μ := fun s i μ hv0 hv1 hv2 hv3 hv4 hv5 hv6 hv7 => lp74 ((am_shl 1 (2 * ν 83 14) - i) + 1).toNat s i μ hv0 hv1 hv2 hv3 hv4 hv5 hv6 hv7 (by omega)
  refine am_go (ct := fun pc => Nat.beq pc 74) am_oX7_close 300 ?_
  conv => whnf
  repeat' first
    | (refine (?_ : am_wp _ _ _ _ _ _ _ _ _ _ _ _); conv => whnf)
    | (refine (?_ : am_sw _ _ _ _); conv => whnf)
    | refine And.intro trivial ?_
    | exact trivial
    | (have _q := zx; refine x_isIn w _ _ _ rfl cw ?_ ?_ (fun _ _ => ?_) (fun _ => ?_))
    | refine x_isIn x _ _ _ rfl cx ?_ ?_ (fun zx _ => ?_) (fun _ => ?_)
    | refine x_lowest _ ?_ (fun μr fr => ?_)
    | (have n2 : 2 ≤ ν 83 14 := (by (simp only [cn, l2] at *; first | done | omega)); refine n_uneven hm0 hw (fun μ1 h1 g1 => ?_))
    | (refine n_races ?_; rw [g1 83 14 (by decide) (by decide) (by decide)])
    | (rw [cu, cA]; refine n_partOf _ _ _ cw (u0 (by omega)) (by omega) (by omega) (by omega) ?_)
    | refine kk _ _ h1 ?_
    | refine kk _ _ (mi_84 hm fr) ?_
    | refine And.intro (fun h => absurd h (by omega)) (fun _ => ?_)
    | refine And.intro (fun _ => ?_) (fun h => absurd h (by omega))
    | refine lp74' _ _ _ ?_ ?_ ?_ ?_ ?_ ?_ ?_ ?_
    | refine And.intro (fun h => absurd h (by decide)) (fun _ => ?_)
    | refine And.intro (fun _ => ?_) (fun h => absurd (by decide) h)
    | refine And.intro (fun _ => ?_) (fun _ => ?_)
    | refine And.intro ?_ ?_
  all_goals (first | omega | (with_reducible assumption) | rfl | (intros; rfl) | (intro p hp; exact mi_or hm0 p hp) | ((simp only [cx, l0, l1] at *; first | done | omega)) | (unfold fp_clr; rw [if_pos (by omega)]; rfl) | (unfold fp_clr; rw [if_neg (by omega), e4, if_pos (by (simp only [cn, l2] at *; first | done | omega))]; rfl) | (unfold fp_clr; rw [if_neg (by omega), e4, if_neg (by omega), if_neg (by (simp only [cx, l0, l1] at *; first | done | omega)), ea]) | (trace_state; fail))
