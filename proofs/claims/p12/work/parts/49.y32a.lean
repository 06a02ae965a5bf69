/-! all ways by thirds -/
def fp_ej (c j : Nat) : Nat := c / 3 ^ j % 3
theorem fp_ej_3 (c j : Nat) : fp_ej c j < 3 := Nat.mod_lt _ (by decide)
theorem fp_ej_l {n j q d : Nat} (hj : j < n) (hn : n ≤ 3) : fp_ej (d * 3 ^ n + q) j = fp_ej q j := by
  unfold fp_ej
  rcases (show (n = 1 ∧ j = 0) ∨ (n = 2 ∧ j = 0) ∨ (n = 2 ∧ j = 1) ∨ (n = 3 ∧ j = 0) ∨ (n = 3 ∧ j = 1) ∨ (n = 3 ∧ j = 2) by omega) with ⟨rfl, rfl⟩ | ⟨rfl, rfl⟩ | ⟨rfl, rfl⟩ | ⟨rfl, rfl⟩ | ⟨rfl, rfl⟩ | ⟨rfl, rfl⟩
  · show (d * 3 + q) / 1 % 3 = q / 1 % 3; omega
  · show (d * 9 + q) / 1 % 3 = q / 1 % 3; omega
  · show (d * 9 + q) / 3 % 3 = q / 3 % 3; omega
  · show (d * 27 + q) / 1 % 3 = q / 1 % 3; omega
  · show (d * 27 + q) / 3 % 3 = q / 3 % 3; omega
  · show (d * 27 + q) / 9 % 3 = q / 9 % 3; omega
theorem fp_ej_t {n q d : Nat} (hq : q < 3 ^ n) (hd : d < 3) (hn : n ≤ 3) : fp_ej (d * 3 ^ n + q) n = d := by
  unfold fp_ej
  rcases (show n = 0 ∨ n = 1 ∨ n = 2 ∨ n = 3 by omega) with rfl | rfl | rfl | rfl
  · have hq : q < 1 := hq; show (d * 1 + q) / 1 % 3 = d; omega
  · have hq : q < 3 := hq; show (d * 3 + q) / 3 % 3 = d; omega
  · have hq : q < 9 := hq; show (d * 9 + q) / 9 % 3 = d; omega
  · have hq : q < 27 := hq; show (d * 27 + q) / 27 % 3 = d; omega
/-- powers of three, quotients: by steps, so that nothing unfolds them -/
def fp_3n : Nat → Nat
  | 0 => 1
  | n + 1 => fp_3n n * 3
theorem fp_3n_e : ∀ n : Nat, fp_3n n = 3 ^ n := by
  intro n
  induction n with
  | zero => rfl
  | succ n ih => rw [Nat.pow_succ, ← ih]; rfl
theorem fp_3n_s (n : Nat) : fp_3n (n + 1) = fp_3n n * 3 := rfl
theorem fp_3n_b {n : Nat} (h : n ≤ 4) : 1 ≤ fp_3n n ∧ fp_3n n ≤ 81 := by
  rcases (show n = 0 ∨ n = 1 ∨ n = 2 ∨ n = 3 ∨ n = 4 by omega) with rfl | rfl | rfl | rfl | rfl <;> exact ⟨by decide, by decide⟩
def fp_q3 (c : Nat) : Nat → Nat
  | 0 => c
  | j + 1 => fp_q3 c j / 3
theorem fp_q3_p (c : Nat) : ∀ j : Nat, fp_q3 c j = c / 3 ^ j := by
  intro j
  induction j with
  | zero => exact (Nat.div_one c).symm
  | succ j ih => rw [Nat.pow_succ, ← Nat.div_div_eq_div_mul, ← ih]; rfl
theorem fp_q3_l (c : Nat) : ∀ j : Nat, fp_q3 c j ≤ c := by
  intro j
  rw [fp_q3_p]
  exact Nat.div_le_self _ _
theorem fp_q3_s (c j : Nat) : fp_q3 c (j + 1) = fp_q3 c j / 3 := rfl
theorem fp_q3_0 (c : Nat) : fp_q3 c 0 = c := rfl
theorem fp_q3_e (c j : Nat) : fp_ej c j = fp_q3 c j % 3 := by rw [fp_q3_p]; rfl
def fp_cp (e : Nat) : Nat := if e = 2 then 3 else e
/-- in how many of all ways an outcome comes -/
def fp_ew (c : Nat) : Nat → Int
  | 0 => 1
  | j + 1 => if fp_ej c j = 1 then fp_ew c j * 2 else fp_ew c j
theorem fp_ew_e {c q : Nat} : ∀ n : Nat, (∀ j : Nat, j < n → fp_ej c j = fp_ej q j) → fp_ew c n = fp_ew q n := by
  intro n
  induction n with
  | zero => intro _; rfl
  | succ n ih =>
    intro h
    simp only [fp_ew]
    rw [ih (fun j hj => h j (by omega)), h n (by omega)]
theorem fp_ad3 {a b c x y z : Int} (h1 : a = x) (h2 : b = y) (h3 : c = z) : a + b + c = x + y + z := by rw [h1, h2, h3]
theorem fp_ad4 {a b c d x y z w : Int} (h1 : a = x) (h2 : b = y) (h3 : c = z) (h4 : d = w) : a + b + c + d = x + y + z + w := by rw [h1, h2, h3, h4]
/-- over all races as over all outcomes, each as often as it comes -/
theorem fp_t34 (T s : Nat → Int) : ∀ n : Nat, n ≤ 4 → ∀ H : (Nat → Int) → Int, (∀ t u : Nat → Int, (∀ j : Nat, j < n → t j = u j) → H t = H u) → fp_su (fun k => H (fun j => fp_pt (T j) (s j) (fp_dj k j))) (4 ^ n) = fp_su (fun c => fp_ew c n * H (fun j => fp_pt (T j) (s j) (fp_cp (fp_ej c j)))) (3 ^ n) := by
  intro n
  induction n with
  | zero =>
    intro _ H h
    show (0 : Int) + H _ = 0 + 1 * H _
    rw [Int.one_mul]
    exact congrArg (fun z : Int => (0 : Int) + z) (h _ _ (fun j hj => absurd hj (by omega)))
  | succ n ih =>
    intro hn H h
    have hd : ∀ v : Int, ∀ t u : Nat → Int, (∀ j : Nat, j < n → t j = u j) → H (fun j => if j = n then v else t j) = H (fun j => if j = n then v else u j) := fun v t u e => h _ _ (fun j hj => by
      show (if j = n then v else t j) = (if j = n then v else u j)
      by_cases d : j = n
      · rw [if_pos d, if_pos d]
      · rw [if_neg d, if_neg d]; exact e j (by omega))
    have L : ∀ (d : Nat) (g : Nat → Nat), d < 4 → (∀ q, g q = d * 4 ^ n + q) → fp_su (fun q => H (fun j => fp_pt (T j) (s j) (fp_dj (g q) j))) (4 ^ n) = fp_su (fun c => fp_ew c n * H (fun j => if j = n then fp_pt (T n) (s n) d else fp_pt (T j) (s j) (fp_cp (fp_ej c j)))) (3 ^ n) := fun d g h4 hg => by
      refine Eq.trans (fp_su_e (g := fun q => H (fun j => if j = n then fp_pt (T n) (s n) d else fp_pt (T j) (s j) (fp_dj q j))) _ (fun q hq => h _ _ (fun j hj => ?_))) ?_
      · show fp_pt (T j) (s j) (fp_dj (g q) j) = (if j = n then fp_pt (T n) (s n) d else fp_pt (T j) (s j) (fp_dj q j))
        rw [hg]
        by_cases e : j = n
        · rw [if_pos e, e, fp_dj_t hq h4 (by omega)]
        · rw [if_neg e, fp_dj_l (by omega) (by omega)]
      · exact ih (by omega) (fun t => H (fun j => if j = n then fp_pt (T n) (s n) d else t j)) (hd _)
    have R : ∀ (d : Nat) (g : Nat → Nat), d < 3 → (∀ q, g q = d * 3 ^ n + q) → fp_su (fun c => fp_ew (g c) (n + 1) * H (fun j => fp_pt (T j) (s j) (fp_cp (fp_ej (g c) j)))) (3 ^ n) = fp_su (fun c => fp_ew c n * H (fun j => if j = n then fp_pt (T n) (s n) (fp_cp d) else fp_pt (T j) (s j) (fp_cp (fp_ej c j)))) (3 ^ n) * (if d = 1 then (2 : Int) else 1) := fun d g h3 hg => by
      rw [← fp_su_m]
      refine fp_su_e _ (fun c hc => ?_)
      have ew : fp_ew (g c) n = fp_ew c n := fp_ew_e n (fun j hj => by rw [hg]; exact fp_ej_l hj (by omega))
      have et : fp_ej (g c) n = d := by rw [hg]; exact fp_ej_t hc h3 (by omega)
      have eH : H (fun j => fp_pt (T j) (s j) (fp_cp (fp_ej (g c) j))) = H (fun j => if j = n then fp_pt (T n) (s n) (fp_cp d) else fp_pt (T j) (s j) (fp_cp (fp_ej c j))) := h _ _ (fun j hj => by
        show fp_pt (T j) (s j) (fp_cp (fp_ej (g c) j)) = (if j = n then fp_pt (T n) (s n) (fp_cp d) else fp_pt (T j) (s j) (fp_cp (fp_ej c j)))
        by_cases e : j = n
        · rw [if_pos e, e, et]
        · rw [if_neg e, hg, fp_ej_l (by omega) (by omega)])
      have e1 : fp_ew (g c) (n + 1) = fp_ew c n * (if d = 1 then (2 : Int) else 1) := by
        show (if fp_ej (g c) n = 1 then fp_ew (g c) n * 2 else fp_ew (g c) n) = _
        rw [et, ew]
        by_cases e : d = 1
        · rw [if_pos e, if_pos e]
        · rw [if_neg e, if_neg e, Int.mul_one]
      show fp_ew (g c) (n + 1) * H (fun j => fp_pt (T j) (s j) (fp_cp (fp_ej (g c) j))) = _
      rw [e1, eH, Int.mul_assoc, Int.mul_comm (if d = 1 then (2 : Int) else 1), ← Int.mul_assoc]
    have A : ∀ f : Nat → Int, fp_su f (4 ^ (n + 1)) = fp_su f (4 ^ n) + fp_su (fun q => f (4 ^ n + q)) (4 ^ n) + fp_su (fun q => f (4 ^ n + 4 ^ n + q)) (4 ^ n) + fp_su (fun q => f (4 ^ n + 4 ^ n + 4 ^ n + q)) (4 ^ n) := fun f => by
      rw [show 4 ^ (n + 1) = 4 ^ n + 4 ^ n + 4 ^ n + 4 ^ n by rw [Nat.pow_succ]; omega, fp_su_a f (4 ^ n + 4 ^ n + 4 ^ n), fp_su_a f (4 ^ n + 4 ^ n), fp_su_a f (4 ^ n)]
    have B : ∀ f : Nat → Int, fp_su f (3 ^ (n + 1)) = fp_su f (3 ^ n) + fp_su (fun q => f (3 ^ n + q)) (3 ^ n) + fp_su (fun q => f (3 ^ n + 3 ^ n + q)) (3 ^ n) := fun f => by
      rw [show 3 ^ (n + 1) = 3 ^ n + 3 ^ n + 3 ^ n by rw [Nat.pow_succ]; omega, fp_su_a f (3 ^ n + 3 ^ n), fp_su_a f (3 ^ n)]
    have fin : ∀ x0 x1 x3 : Int, x0 + x1 + x1 + x3 = x0 * (if (0 : Nat) = 1 then (2 : Int) else 1) + x1 * (if (1 : Nat) = 1 then (2 : Int) else 1) + x3 * (if (2 : Nat) = 1 then (2 : Int) else 1) := fun x0 x1 x3 => by
      rw [if_neg (by decide), if_pos rfl, if_neg (by decide)]
      omega
    have l0 := L 0 (fun q => q) (by decide) (fun q => by show q = 0 * 4 ^ n + q; omega)
    have l1 := L 1 (fun q => 4 ^ n + q) (by decide) (fun q => by show 4 ^ n + q = 1 * 4 ^ n + q; omega)
    have l2 := L 2 (fun q => 4 ^ n + 4 ^ n + q) (by decide) (fun q => by show 4 ^ n + 4 ^ n + q = 2 * 4 ^ n + q; omega)
    have l3 := L 3 (fun q => 4 ^ n + 4 ^ n + 4 ^ n + q) (by decide) (fun q => by show 4 ^ n + 4 ^ n + 4 ^ n + q = 3 * 4 ^ n + q; omega)
    have r0 := R 0 (fun q => q) (by decide) (fun q => by show q = 0 * 3 ^ n + q; omega)
    have r1 := R 1 (fun q => 3 ^ n + q) (by decide) (fun q => by show 3 ^ n + q = 1 * 3 ^ n + q; omega)
    have r2 := R 2 (fun q => 3 ^ n + 3 ^ n + q) (by decide) (fun q => by show 3 ^ n + 3 ^ n + q = 2 * 3 ^ n + q; omega)
    exact ((A _).trans (fp_ad4 l0 l1 l2 l3)).trans ((fin _ _ _).trans ((B _).trans (fp_ad3 r0 r1 r2)).symm)
theorem fp_t34' (T s : Nat → Int) (n : Nat) (hn : n ≤ 4) (H : (Nat → Int) → Int) (h : ∀ t u : Nat → Int, (∀ j : Nat, j < n → t j = u j) → H t = H u) : fp_su (fun k => H (fun j => fp_pt (T j) (s j) (fp_dj k j))) (4 ^ n) = fp_su (fun c => fp_ew c n * H (fun j => fp_pt (T j) (s j) (fp_cp (fp_ej c j)))) (fp_3n n) := by
  rw [fp_3n_e]
  exact fp_t34 T s n hn H h
theorem fp_su_bB {f : Nat → Int} {B : Int} (h : ∀ k : Nat, 0 ≤ f k ∧ f k ≤ B) : ∀ N : Nat, 0 ≤ fp_su f N ∧ fp_su f N ≤ (N : Int) * B := by
  intro N
  induction N with
  | zero => exact ⟨(by first | exact Int.le_refl 0 | (show (0 : Int) ≤ _; decide) | (show _ ≤ (0 : Int); decide)), by rw [show ((0 : Nat) : Int) * B = 0 from Int.zero_mul B]; exact (by first | exact Int.le_refl 0 | (show (0 : Int) ≤ _; decide) | (show _ ≤ (0 : Int); decide))⟩
  | succ N ih =>
    have q := h N
    have e : ((N + 1 : Nat) : Int) * B = (N : Int) * B + B := by rw [show ((N + 1 : Nat) : Int) = (N : Int) + 1 from rfl, Int.add_mul, Int.one_mul]
    rw [e]
    simp only [fp_su]
    omega
/-- the gap of two that come first -/
theorem fp_gz_e {t u : Nat → Int} {n : Int} (hn : n ≤ 4) (h : ∀ q : Nat, (q : Int) < n → t q = u q) : fp_gz t n = fp_gz u n := by
  unfold fp_gz
  by_cases d : 1 < n
  · have e1 : fp_od t n 1 = fp_od u n 1 := fp_od_i2 (p := 1) hn (by omega) h
    have e0 : fp_od t n 0 = fp_od u n 0 := fp_od_i2 (p := 0) hn (by omega) h
    have b1 := fp_od_b u n 1
    have b0 := fp_od_b u n 0
    have o1 : fp_od u n 1 < n := fp_od_n hn (by decide) d
    have o0 : fp_od u n 0 < n := fp_od_n hn (by decide) (by omega)
    rw [if_pos d, if_pos d, e1, e0, h _ (by omega), h _ (by omega)]
  · rw [if_neg d, if_neg d]
theorem fp_gz_b {t : Nat → Int} {n : Int} {B : Int} (hn : n ≤ 4) (h : ∀ q : Nat, (q : Int) < n → 0 ≤ t q ∧ t q ≤ B) (hB : 0 ≤ B) : 0 ≤ fp_gz t n ∧ fp_gz t n ≤ B := by
  unfold fp_gz
  by_cases d : 1 < n
  · rw [if_pos d]
    obtain ⟨i0, h0, c0⟩ := am_cnt_s t (m := n.toNat) (by omega) 0 (by omega)
    obtain ⟨i1, h1, c1⟩ := am_cnt_s t (m := n.toNat) (by omega) 1 (by omega)
    have e0 : fp_od t n 0 = (i0 : Int) := fp_od_i hn (by omega) c0
    have e1 : fp_od t n 1 = (i1 : Int) := fp_od_i hn (by omega) c1
    have le := am_cnt_le t h1 (by rw [c0, c1]; decide)
    have b0 := h i0 (by omega)
    have b1 := h i1 (by omega)
    rw [e0, e1, Int.toNat_natCast, Int.toNat_natCast]
    omega
  · rw [if_neg d]
    exact ⟨Int.le_refl 0, hB⟩
/-- what each takes in race k of all -/
def fp_tp (F : am_N) (k : Nat) : Nat → Int := fun j => fp_pt (fp_tf F j) (F 4 j) (fp_dj k j)
def fp_gA (F : am_N) : Int := fp_su (fun k => fp_gz (fp_tp F k) (F 0 4)) (4 ^ (F 0 4).toNat)
theorem fp_tp_b {F : am_N} (h : fp_fw 999 F) (k : Nat) : ∀ q : Nat, (q : Int) < F 0 4 → 0 ≤ fp_tp F k q ∧ fp_tp F k q ≤ 100020 := fun q hq => by
  have hc : am_fC F 0 := by
    obtain ⟨a0, a1, a2, a3, a4, a5, a6⟩ := h
    refine ⟨a4, ⟨by omega, by omega⟩, fun i hi => ?_⟩
    obtain ⟨q1, q2, q3, q4⟩ := a6 i hi
    exact ⟨⟨q3, q2, q1, by omega, by omega⟩, a5 i (by omega)⟩
  have t1 := am_TC_b (i := q) hc (by omega)
  have t1 : 1 ≤ fp_tf F q ∧ fp_tf F q ≤ 60000 := t1
  have s1 := (h.2.2.2.2.2.2 q hq).2.2.2
  have p := fp_pt_b (t := fp_tf F q) (s := F 4 q) (q := fp_dj k q) t1.1 (by omega) s1.1 s1.2
  unfold fp_tp
  omega
theorem fp_p4 {n : Int} (h0 : 0 ≤ n) (h1 : n ≤ 4) : (4 ^ n.toNat : Nat) ≤ 256 ∧ (3 ^ n.toNat : Nat) ≤ 81 := by
  rcases (show n = 0 ∨ n = 1 ∨ n = 2 ∨ n = 3 ∨ n = 4 by omega) with rfl | rfl | rfl | rfl | rfl <;> exact ⟨by decide, by decide⟩
theorem fp_gA_b {F : am_N} (h : fp_fw 999 F) : 0 ≤ fp_gA F ∧ fp_gA F ≤ 100000000 := by
  have n4 := h.2.2.2.2.1
  have p := (fp_p4 n4.1 n4.2).1
  have b := fp_su_bB (f := fun k => fp_gz (fp_tp F k) (F 0 4)) (B := 100020) (fun k => fp_gz_b n4.2 (fp_tp_b h k) (by decide)) (4 ^ (F 0 4).toNat)
  have m := am_mulb (a := ((4 ^ (F 0 4).toNat : Nat) : Int)) (A := 256) (b := 100020) (B := 100020) (by omega) (by omega) (by decide) (by decide)
  unfold fp_gA
  omega
def fp_clr (F : am_N) (x w : Int) : Int := if ¬((x = 0 ∨ x = 1) ∧ (w = 0 ∨ w = 1)) then 4000000000000000002 else if F 0 4 < 2 then 4000000000000000003 else if x = 0 then fp_fr (fp_gA F) (fp_al2 F) w else fp_fr (fp_un F) (fp_al2 F) w
/-- UNEVEN is no less than 0 -/
theorem fp_ui_x {f : Nat → Int} {g : Int} : ∀ n : Nat, 1 ≤ n → fp_ui g f n ≤ fp_ux f n ∨ fp_ui g f n ≤ f 0 := by
  intro n h
  right
  induction n with
  | zero => exact absurd h (by omega)
  | succ n ih =>
    simp only [fp_ui]
    by_cases d : 1 ≤ n
    · have q := ih d
      split <;> omega
    · have z0 : n = 0 := by omega
      subst z0
      show (if f 0 < g then f 0 else g) ≤ f 0
      by_cases z : f 0 < g
      · rw [if_pos z]; first | done | exact Int.le_refl _
      · rw [if_neg z]; omega
theorem fp_ux_x {f : Nat → Int} : ∀ n : Nat, 1 ≤ n → f 0 ≤ fp_ux f n := by
  intro n h
  induction n with
  | zero => exact absurd h (by omega)
  | succ n ih =>
    simp only [fp_ux]
    by_cases d : 1 ≤ n
    · have q := ih d
      split <;> omega
    · have z0 : n = 0 := by omega
      subst z0
      show f 0 ≤ if 0 < f 0 then f 0 else 0
      by_cases z : 0 < f 0
      · rw [if_pos z]; first | done | exact Int.le_refl _
      · rw [if_neg z]; omega
theorem fp_un_0 {F : am_N} (h : 1 ≤ F 0 4) : 0 ≤ fp_un F := by
  have a := fp_ui_x (f := fp_lw F) (g := fp_al2 F) (F 0 4).toNat (by omega)
  have b := fp_ux_x (f := fp_lw F) (F 0 4).toNat (by omega)
  unfold fp_un
  omega
def fp_r3 (a b c : Int) (e : Nat) : Int := if e = 0 then a else if e = 1 then b else c
theorem fp_r3_p {t s : Int} {e : Nat} (he : e < 3) : fp_r3 (fp_pt t s 0) t (t + s) e = fp_pt t s (fp_cp e) := by
  rcases (show e = 0 ∨ e = 1 ∨ e = 2 by omega) with rfl | rfl | rfl <;> rfl
