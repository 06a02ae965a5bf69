/-! all ways by thirds -/
def fp_ej (c j : Nat) : Nat := c / 3 ^ j % 3
theorem fp_ej_3 (c j : Nat) : fp_ej c j < 3 := Nat.mod_lt _ (by decide)
theorem fp_ej_l {n j q d : Nat} (hj : j < n) (hn : n ≤ 3) : fp_ej (d * 3 ^ n + q) j = fp_ej q j := by
  unfold fp_ej
  rcases (show (n = 1 ∧ j = 0) ∨ (n = 2 ∧ j = 0) ∨ (n = 2 ∧ j = 1) ∨ (n = 3 ∧ j = 0) ∨ (n = 3 ∧ j = 1) ∨ (n = 3 ∧ j = 2) by omega) with ⟨rfl, rfl⟩ | ⟨rfl, rfl⟩ | ⟨rfl, rfl⟩ | ⟨rfl, rfl⟩ | ⟨rfl, rfl⟩ | ⟨rfl, rfl⟩
  · show (d * 3 + q) / 1 % 3 = q / 1 % 3; omega
  · show (d * 9 + q) / 1 % 3 = q / 1 % 3; omega
  · show (d * 9 + q) / 3 % 3 = q / 3 % 3; omega
  · show (d * 27 + q) / 1 % 3 = q / 1 % 3; omega
  · show (d * 27 + q) / 3 % 3 = q / 3 % 3; omega
  · show (d * 27 + q) / 9 % 3 = q / 9 % 3; omega
theorem fp_ej_t {n q d : Nat} (hq : q < 3 ^ n) (hd : d < 3) (hn : n ≤ 3) : fp_ej (d * 3 ^ n + q) n = d := by
  unfold fp_ej
  rcases (show n = 0 ∨ n = 1 ∨ n = 2 ∨ n = 3 by omega) with rfl | rfl | rfl | rfl
  · have hq : q < 1 := hq; show (d * 1 + q) / 1 % 3 = d; omega
  · have hq : q < 3 := hq; show (d * 3 + q) / 3 % 3 = d; omega
  · have hq : q < 9 := hq; show (d * 9 + q) / 9 % 3 = d; omega
  · have hq : q < 27 := hq; show (d * 27 + q) / 27 % 3 = d; omega
/-- powers of three, quotients: by steps, so that nothing unfolds them -/
def fp_3n : Nat → Nat
  | 0 => 1
  | n + 1 => fp_3n n * 3
theorem fp_3n_e : ∀ n : Nat, fp_3n n = 3 ^ n := by
  intro n
  induction n with
  | zero => rfl
  | succ n ih => rw [Nat.pow_succ, ← ih]; rfl
theorem fp_3n_s (n : Nat) : fp_3n (n + 1) = fp_3n n * 3 := rfl
theorem fp_3n_b {n : Nat} (h : n ≤ 4) : 1 ≤ fp_3n n ∧ fp_3n n ≤ 81 := by
  rcases (show n = 0 ∨ n = 1 ∨ n = 2 ∨ n = 3 ∨ n = 4 by omega) with rfl | rfl | rfl | rfl | rfl <;> exact ⟨by decide, by decide⟩
def fp_q3 (c : Nat) : Nat → Nat
  | 0 => c
  | j + 1 => fp_q3 c j / 3
theorem fp_q3_p (c : Nat) : ∀ j : Nat, fp_q3 c j = c / 3 ^ j := by
  intro j
  induction j with
  | zero => exact (Nat.div_one c).symm
  | succ j ih => rw [Nat.pow_succ, ← Nat.div_div_eq_div_mul, ← ih]; rfl
theorem fp_q3_l (c : Nat) : ∀ j : Nat, fp_q3 c j ≤ c := by
  intro j
  rw [fp_q3_p]
  exact Nat.div_le_self _ _
theorem fp_q3_s (c j : Nat) : fp_q3 c (j + 1) = fp_q3 c j / 3 := rfl
theorem fp_q3_0 (c : Nat) : fp_q3 c 0 = c := rfl
theorem fp_q3_e (c j : Nat) : fp_ej c j = fp_q3 c j % 3 := by rw [fp_q3_p]; rfl
def fp_qt (v : Nat) : Nat → Nat
  | 0 => v
  | p + 1 => fp_qt v p / 10
theorem fp_qt_p (v : Nat) : ∀ p : Nat, fp_qt v p = v / 10 ^ p := by
  intro p
  induction p with
  | zero => exact (Nat.div_one v).symm
  | succ p ih => rw [Nat.pow_succ, ← Nat.div_div_eq_div_mul, ← ih]; rfl
theorem fp_qt_l (v : Nat) : ∀ p : Nat, fp_qt v p ≤ v := by
  intro p
  rw [fp_qt_p]
  exact Nat.div_le_self _ _
theorem fp_qt_s (v p : Nat) : fp_qt v (p + 1) = fp_qt v p / 10 := rfl
theorem fp_qt_0 (v : Nat) : fp_qt v 0 = v := rfl
def fp_cp (e : Nat) : Nat := if e = 2 then 3 else e
/-- in how many of all ways an outcome comes -/
def fp_ew (c : Nat) : Nat → Int
  | 0 => 1
  | j + 1 => if fp_ej c j = 1 then fp_ew c j * 2 else fp_ew c j
theorem fp_ew_e {c q : Nat} : ∀ n : Nat, (∀ j : Nat, j < n → fp_ej c j = fp_ej q j) → fp_ew c n = fp_ew q n := by
  intro n
  induction n with
  | zero => intro _; rfl
  | succ n ih =>
    intro h
    simp only [fp_ew]
    rw [ih (fun j hj => h j (by omega)), h n (by omega)]
theorem fp_ad3 {a b c x y z : Int} (h1 : a = x) (h2 : b = y) (h3 : c = z) : a + b + c = x + y + z := by rw [h1, h2, h3]
theorem fp_ad4 {a b c d x y z w : Int} (h1 : a = x) (h2 : b = y) (h3 : c = z) (h4 : d = w) : a + b + c + d = x + y + z + w := by rw [h1, h2, h3, h4]
/-- over all races as over all outcomes, each as often as it comes -/
theorem fp_t34 (T s : Nat → Int) : ∀ n : Nat, n ≤ 4 → ∀ H : (Nat → Int) → Int, (∀ t u : Nat → Int, (∀ j : Nat, j < n → t j = u j) → H t = H u) → fp_su (fun k => H (fun j => fp_pt (T j) (s j) (fp_dj k j))) (4 ^ n) = fp_su (fun c => fp_ew c n * H (fun j => fp_pt (T j) (s j) (fp_cp (fp_ej c j)))) (3 ^ n) := by
  intro n
  induction n with
  | zero =>
    intro _ H h
    show (0 : Int) + H _ = 0 + 1 * H _
    rw [Int.one_mul]
    exact congrArg (fun z : Int => (0 : Int) + z) (h _ _ (fun j hj => absurd hj (by omega)))
  | succ n ih =>
    intro hn H h
    have hd : ∀ v : Int, ∀ t u : Nat → Int, (∀ j : Nat, j < n → t j = u j) → H (fun j => if j = n then v else t j) = H (fun j => if j = n then v else u j) := fun v t u e => h _ _ (fun j hj => by
      show (if j = n then v else t j) = (if j = n then v else u j)
      by_cases d : j = n
      · rw [if_pos d, if_pos d]
      · rw [if_neg d, if_neg d]; exact e j (by omega))
    have L : ∀ (d : Nat) (g : Nat → Nat), d < 4 → (∀ q, g q = d * 4 ^ n + q) → fp_su (fun q => H (fun j => fp_pt (T j) (s j) (fp_dj (g q) j))) (4 ^ n) = fp_su (fun c => fp_ew c n * H (fun j => if j = n then fp_pt (T n) (s n) d else fp_pt (T j) (s j) (fp_cp (fp_ej c j)))) (3 ^ n) := fun d g h4 hg => by
      refine Eq.trans (fp_su_e (g := fun q => H (fun j => if j = n then fp_pt (T n) (s n) d else fp_pt (T j) (s j) (fp_dj q j))) _ (fun q hq => h _ _ (fun j hj => ?_))) ?_
      · show fp_pt (T j) (s j) (fp_dj (g q) j) = (if j = n then fp_pt (T n) (s n) d else fp_pt (T j) (s j) (fp_dj q j))
        rw [hg]
        by_cases e : j = n
        · rw [if_pos e, e, fp_dj_t hq h4 (by omega)]
        · rw [if_neg e, fp_dj_l (by omega) (by omega)]
      · exact ih (by omega) (fun t => H (fun j => if j = n then fp_pt (T n) (s n) d else t j)) (hd _)
    have R : ∀ (d : Nat) (g : Nat → Nat), d < 3 → (∀ q, g q = d * 3 ^ n + q) → fp_su (fun c => fp_ew (g c) (n + 1) * H (fun j => fp_pt (T j) (s j) (fp_cp (fp_ej (g c) j)))) (3 ^ n) = fp_su (fun c => fp_ew c n * H (fun j => if j = n then fp_pt (T n) (s n) (fp_cp d) else fp_pt (T j) (s j) (fp_cp (fp_ej c j)))) (3 ^ n) * (if d = 1 then (2 : Int) else 1) := fun d g h3 hg => by
      rw [← fp_su_m]
      refine fp_su_e _ (fun c hc => ?_)
      have ew : fp_ew (g c) n = fp_ew c n := fp_ew_e n (fun j hj => by rw [hg]; exact fp_ej_l hj (by omega))
      have et : fp_ej (g c) n = d := by rw [hg]; exact fp_ej_t hc h3 (by omega)
      have eH : H (fun j => fp_pt (T j) (s j) (fp_cp (fp_ej (g c) j))) = H (fun j => if j = n then fp_pt (T n) (s n) (fp_cp d) else fp_pt (T j) (s j) (fp_cp (fp_ej c j))) := h _ _ (fun j hj => by
        show fp_pt (T j) (s j) (fp_cp (fp_ej (g c) j)) = (if j = n then fp_pt (T n) (s n) (fp_cp d) else fp_pt (T j) (s j) (fp_cp (fp_ej c j)))
        by_cases e : j = n
        · rw [if_pos e, e, et]
        · rw [if_neg e, hg, fp_ej_l (by omega) (by omega)])
      have e1 : fp_ew (g c) (n + 1) = fp_ew c n * (if d = 1 then (2 : Int) else 1) := by
        show (if fp_ej (g c) n = 1 then fp_ew (g c) n * 2 else fp_ew (g c) n) = _
        rw [et, ew]
        by_cases e : d = 1
        · rw [if_pos e, if_pos e]
        · rw [if_neg e, if_neg e, Int.mul_one]
      show fp_ew (g c) (n + 1) * H (fun j => fp_pt (T j) (s j) (fp_cp (fp_ej (g c) j))) = _
      rw [e1, eH, Int.mul_assoc, Int.mul_comm (if d = 1 then (2 : Int) else 1), ← Int.mul_assoc]
    have A : ∀ f : Nat → Int, fp_su f (4 ^ (n + 1)) = fp_su f (4 ^ n) + fp_su (fun q => f (4 ^ n + q)) (4 ^ n) + fp_su (fun q => f (4 ^ n + 4 ^ n + q)) (4 ^ n) + fp_su (fun q => f (4 ^ n + 4 ^ n + 4 ^ n + q)) (4 ^ n) := fun f => by
      rw [show 4 ^ (n + 1) = 4 ^ n + 4 ^ n + 4 ^ n + 4 ^ n by rw [Nat.pow_succ]; omega, fp_su_a f (4 ^ n + 4 ^ n + 4 ^ n), fp_su_a f (4 ^ n + 4 ^ n), fp_su_a f (4 ^ n)]
    have B : ∀ f : Nat → Int, fp_su f (3 ^ (n + 1)) = fp_su f (3 ^ n) + fp_su (fun q => f (3 ^ n + q)) (3 ^ n) + fp_su (fun q => f (3 ^ n + 3 ^ n + q)) (3 ^ n) := fun f => by
      rw [show 3 ^ (n + 1) = 3 ^ n + 3 ^ n + 3 ^ n by rw [Nat.pow_succ]; omega, fp_su_a f (3 ^ n + 3 ^ n), fp_su_a f (3 ^ n)]
    have fin : ∀ x0 x1 x3 : Int, x0 + x1 + x1 + x3 = x0 * (if (0 : Nat) = 1 then (2 : Int) else 1) + x1 * (if (1 : Nat) = 1 then (2 : Int) else 1) + x3 * (if (2 : Nat) = 1 then (2 : Int) else 1) := fun x0 x1 x3 => by
      rw [if_neg (by decide), if_pos rfl, if_neg (by decide)]
      omega
    have l0 := L 0 (fun q => q) (by decide) (fun q => by show q = 0 * 4 ^ n + q; omega)
    have l1 := L 1 (fun q => 4 ^ n + q) (by decide) (fun q => by show 4 ^ n + q = 1 * 4 ^ n + q; omega)
    have l2 := L 2 (fun q => 4 ^ n + 4 ^ n + q) (by decide) (fun q => by show 4 ^ n + 4 ^ n + q = 2 * 4 ^ n + q; omega)
    have l3 := L 3 (fun q => 4 ^ n + 4 ^ n + 4 ^ n + q) (by decide) (fun q => by show 4 ^ n + 4 ^ n + 4 ^ n + q = 3 * 4 ^ n + q; omega)
    have r0 := R 0 (fun q => q) (by decide) (fun q => by show q = 0 * 3 ^ n + q; omega)
    have r1 := R 1 (fun q => 3 ^ n + q) (by decide) (fun q => by show 3 ^ n + q = 1 * 3 ^ n + q; omega)
    have r2 := R 2 (fun q => 3 ^ n + 3 ^ n + q) (by decide) (fun q => by show 3 ^ n + 3 ^ n + q = 2 * 3 ^ n + q; omega)
    exact ((A _).trans (fp_ad4 l0 l1 l2 l3)).trans ((fin _ _ _).trans ((B _).trans (fp_ad3 r0 r1 r2)).symm)
theorem fp_t34' (T s : Nat → Int) (n : Nat) (hn : n ≤ 4) (H : (Nat → Int) → Int) (h : ∀ t u : Nat → Int, (∀ j : Nat, j < n → t j = u j) → H t = H u) : fp_su (fun k => H (fun j => fp_pt (T j) (s j) (fp_dj k j))) (4 ^ n) = fp_su (fun c => fp_ew c n * H (fun j => fp_pt (T j) (s j) (fp_cp (fp_ej c j)))) (fp_3n n) := by
  rw [fp_3n_e]
  exact fp_t34 T s n hn H h
/-- what each takes in race k of all -/
def fp_tp (F : am_N) (k : Nat) : Nat → Int := fun j => fp_pt (fp_tf F j) (F 4 j) (fp_dj k j)
def fp_dA (t : Nat → Int) (n D : Int) : Int := if am_dg (fun p => fp_od t n (p : Int)) n.toNat 0 = D then 1 else 0
def fp_oA (F : am_N) (D : Int) : Int := fp_su (fun k => fp_dA (fp_tp F k) (F 0 4) D) (4 ^ (F 0 4).toNat)
theorem fp_dA_e {t u : Nat → Int} {n D : Int} (hn : n ≤ 4) (h : ∀ q : Nat, (q : Int) < n → t q = u q) : fp_dA t n D = fp_dA u n D := by
  unfold fp_dA
  rw [am_dg_eq (f := fun p => fp_od t n (p : Int)) (g := fun p => fp_od u n (p : Int)) n.toNat 0 (fun p hp => fp_od_i2 hn (by omega) h)]
theorem fp_dA_b (t : Nat → Int) (n D : Int) : 0 ≤ fp_dA t n D ∧ fp_dA t n D ≤ 1 := by
  unfold fp_dA
  split <;> omega
theorem fp_p4 {n : Int} (h0 : 0 ≤ n) (h1 : n ≤ 4) : (4 ^ n.toNat : Nat) ≤ 256 ∧ (3 ^ n.toNat : Nat) ≤ 81 := by
  rcases (show n = 0 ∨ n = 1 ∨ n = 2 ∨ n = 3 ∨ n = 4 by omega) with rfl | rfl | rfl | rfl | rfl <;> exact ⟨by decide, by decide⟩
theorem fp_oA_b {F : am_N} (h : fp_fw 999 F) (D : Int) : 0 ≤ fp_oA F D ∧ fp_oA F D ≤ 256 := by
  have n4 := h.2.2.2.2.1
  have p := (fp_p4 n4.1 n4.2).1
  have b := fp_su_b (f := fun k => fp_dA (fp_tp F k) (F 0 4) D) (fun k => fp_dA_b _ _ _) (4 ^ (F 0 4).toNat)
  unfold fp_oA
  omega
/-- told digits: each of them once -/
def fp_dt (v p : Nat) : Nat := v / 10 ^ p % 10
theorem fp_dt_t (v p : Nat) : fp_dt v p < 10 := Nat.mod_lt _ (by decide)
theorem fp_qt_d (v p : Nat) : fp_dt v p = fp_qt v p % 10 := by rw [fp_qt_p]; rfl
def fp_oc (v : Nat) : Nat → Int
  | 0 => 0
  | p + 1 => am_or (fp_oc v p) (am_shl 1 ((fp_dt v p : Nat) : Int))
abbrev fp_eoA (n v : Nat) : Prop := fp_qt v n = 0 ∧ am_c (fp_oc v n) = am_shl 1 (n : Int) - 1
abbrev fp_eoB (n v : Nat) : Prop := (decide (fp_qt v n = 0) && decide (am_c (fp_oc v n) = am_shl 1 (n : Int) - 1)) = true
theorem fp_eoB_i {n v : Nat} : fp_eoB n v ↔ fp_eoA n v := by
  show (decide (fp_qt v n = 0) && decide (am_c (fp_oc v n) = am_shl 1 (n : Int) - 1)) = true ↔ _
  rw [Bool.and_eq_true, decide_eq_true_eq, decide_eq_true_eq]
def fp_eoC (n v : Nat) : Prop := fp_qt v n = 0 ∧ (∀ p : Nat, p < n → fp_dt v p < n) ∧ ∀ p q : Nat, p < q → q < n → fp_dt v p ≠ fp_dt v q
theorem fp_e1F : ∀ a : Nat, a < 10 → (am_c (am_or 0 (am_shl 1 (a : Int))) = 1 ↔ a < 1) := by decide +kernel
theorem fp_e2F : ∀ a : Nat, a < 10 → ∀ b : Nat, b < 10 → (am_c (am_or (am_or 0 (am_shl 1 (a : Int))) (am_shl 1 (b : Int))) = 3 ↔ a < 2 ∧ b < 2 ∧ a ≠ b) := by decide +kernel
theorem fp_e3FT : ((List.range 10).all (fun a : Nat => ((List.range 10).all (fun b : Nat => ((List.range 10).all (fun c : Nat => decide (am_c (am_or (am_or (am_or 0 (am_shl 1 (a : Int))) (am_shl 1 (b : Int))) (am_shl 1 (c : Int))) = 7) == decide (a < 3 ∧ b < 3 ∧ c < 3 ∧ a ≠ b ∧ a ≠ c ∧ b ≠ c))))))) = true := by decide +kernel
theorem fp_e3F : ∀ a : Nat, a < 10 → ∀ b : Nat, b < 10 → ∀ c : Nat, c < 10 → (am_c (am_or (am_or (am_or 0 (am_shl 1 (a : Int))) (am_shl 1 (b : Int))) (am_shl 1 (c : Int))) = 7 ↔ a < 3 ∧ b < 3 ∧ c < 3 ∧ a ≠ b ∧ a ≠ c ∧ b ≠ c) := by
  intro a ha b hb c hc
  have e0 := List.all_eq_true.mp fp_e3FT a (List.mem_range.mpr ha)
  have e1 := List.all_eq_true.mp e0 b (List.mem_range.mpr hb)
  have e2 := List.all_eq_true.mp e1 c (List.mem_range.mpr hc)
  exact decide_eq_decide.mp (eq_of_beq e2)
theorem fp_e4FT : ((List.range 10).all (fun a : Nat => ((List.range 10).all (fun b : Nat => ((List.range 10).all (fun c : Nat => ((List.range 10).all (fun d : Nat => decide (am_c (am_or (am_or (am_or (am_or 0 (am_shl 1 (a : Int))) (am_shl 1 (b : Int))) (am_shl 1 (c : Int))) (am_shl 1 (d : Int))) = 15) == decide (a < 4 ∧ b < 4 ∧ c < 4 ∧ d < 4 ∧ a ≠ b ∧ a ≠ c ∧ a ≠ d ∧ b ≠ c ∧ b ≠ d ∧ c ≠ d))))))))) = true := by decide +kernel
theorem fp_e4F : ∀ a : Nat, a < 10 → ∀ b : Nat, b < 10 → ∀ c : Nat, c < 10 → ∀ d : Nat, d < 10 → (am_c (am_or (am_or (am_or (am_or 0 (am_shl 1 (a : Int))) (am_shl 1 (b : Int))) (am_shl 1 (c : Int))) (am_shl 1 (d : Int))) = 15 ↔ a < 4 ∧ b < 4 ∧ c < 4 ∧ d < 4 ∧ a ≠ b ∧ a ≠ c ∧ a ≠ d ∧ b ≠ c ∧ b ≠ d ∧ c ≠ d) := by
  intro a ha b hb c hc d hd
  have e0 := List.all_eq_true.mp fp_e4FT a (List.mem_range.mpr ha)
  have e1 := List.all_eq_true.mp e0 b (List.mem_range.mpr hb)
  have e2 := List.all_eq_true.mp e1 c (List.mem_range.mpr hc)
  have e3 := List.all_eq_true.mp e2 d (List.mem_range.mpr hd)
  exact decide_eq_decide.mp (eq_of_beq e3)
theorem fp_eoI0 {n v : Nat} (hn : n ≤ 4) : fp_eoA n v ↔ fp_eoC n v := by
  have d0 := fp_dt_t v 0
  have d1 := fp_dt_t v 1
  have d2 := fp_dt_t v 2
  have d3 := fp_dt_t v 3
  unfold fp_eoC
  rcases (show n = 0 ∨ n = 1 ∨ n = 2 ∨ n = 3 ∨ n = 4 by omega) with rfl | rfl | rfl | rfl | rfl
  · refine ⟨fun h => ⟨h.1, fun p hp => absurd hp (by omega), fun p q h1 h2 => absurd h2 (by omega)⟩, fun h => ⟨h.1, by show am_c 0 = am_shl 1 ((0 : Nat) : Int) - 1; decide +kernel⟩⟩
  · have z : am_c (fp_oc v 1) = am_shl 1 ((1 : Nat) : Int) - 1 ↔ fp_dt v 0 < 1 := fp_e1F _ d0
    refine ⟨fun h => ⟨h.1, fun p hp => ?_, fun p q h1 h2 => absurd h2 (by omega)⟩, fun h => ⟨h.1, z.2 (h.2.1 0 (by decide))⟩⟩
    rw [show p = 0 by omega]
    exact z.1 h.2
  · have z : am_c (fp_oc v 2) = am_shl 1 ((2 : Nat) : Int) - 1 ↔ _ := fp_e2F _ d0 _ d1
    refine ⟨fun h => ?_, fun h => ⟨h.1, z.2 ⟨h.2.1 0 (by decide), h.2.1 1 (by decide), h.2.2 0 1 (by decide) (by decide)⟩⟩⟩
    obtain ⟨y0, y1, y2⟩ := z.1 h.2
    refine ⟨h.1, fun p hp => ?_, fun p q h1 h2 => ?_⟩
    · rcases (show p = 0 ∨ p = 1 by omega) with rfl | rfl <;> assumption
    · rw [show p = 0 by omega, show q = 1 by omega]; exact y2
  · have z : am_c (fp_oc v 3) = am_shl 1 ((3 : Nat) : Int) - 1 ↔ _ := fp_e3F _ d0 _ d1 _ d2
    refine ⟨fun h => ?_, fun h => ⟨h.1, z.2 ⟨h.2.1 0 (by decide), h.2.1 1 (by decide), h.2.1 2 (by decide), h.2.2 0 1 (by decide) (by decide), h.2.2 0 2 (by decide) (by decide), h.2.2 1 2 (by decide) (by decide)⟩⟩⟩
    obtain ⟨y0, y1, y2, y3, y4, y5⟩ := z.1 h.2
    refine ⟨h.1, fun p hp => ?_, fun p q h1 h2 => ?_⟩
    · rcases (show p = 0 ∨ p = 1 ∨ p = 2 by omega) with rfl | rfl | rfl <;> assumption
    · rcases (show (p = 0 ∧ q = 1) ∨ (p = 0 ∧ q = 2) ∨ (p = 1 ∧ q = 2) by omega) with ⟨rfl, rfl⟩ | ⟨rfl, rfl⟩ | ⟨rfl, rfl⟩ <;> assumption
  · have z : am_c (fp_oc v 4) = am_shl 1 ((4 : Nat) : Int) - 1 ↔ _ := fp_e4F _ d0 _ d1 _ d2 _ d3
    refine ⟨fun h => ?_, fun h => ⟨h.1, z.2 ⟨h.2.1 0 (by decide), h.2.1 1 (by decide), h.2.1 2 (by decide), h.2.1 3 (by decide), h.2.2 0 1 (by decide) (by decide), h.2.2 0 2 (by decide) (by decide), h.2.2 0 3 (by decide) (by decide), h.2.2 1 2 (by decide) (by decide), h.2.2 1 3 (by decide) (by decide), h.2.2 2 3 (by decide) (by decide)⟩⟩⟩
    obtain ⟨y0, y1, y2, y3, y4, y5, y6, y7, y8, y9⟩ := z.1 h.2
    refine ⟨h.1, fun p hp => ?_, fun p q h1 h2 => ?_⟩
    · rcases (show p = 0 ∨ p = 1 ∨ p = 2 ∨ p = 3 by omega) with rfl | rfl | rfl | rfl <;> assumption
    · rcases (show (p = 0 ∧ q = 1) ∨ (p = 0 ∧ q = 2) ∨ (p = 0 ∧ q = 3) ∨ (p = 1 ∧ q = 2) ∨ (p = 1 ∧ q = 3) ∨ (p = 2 ∧ q = 3) by omega) with ⟨rfl, rfl⟩ | ⟨rfl, rfl⟩ | ⟨rfl, rfl⟩ | ⟨rfl, rfl⟩ | ⟨rfl, rfl⟩ | ⟨rfl, rfl⟩ <;> assumption
/-- one word for it, that nothing takes apart -/
def fp_eo (n v : Nat) : Prop := ∀ _ : Unit, fp_eoC n v
theorem fp_eoI {n v : Nat} (hn : n ≤ 4) : fp_eoB n v ↔ fp_eo n v := (fp_eoB_i.trans (fp_eoI0 hn)).trans ⟨fun h _ => h, fun h => h ()⟩
theorem fp_b1F : ∀ a : Nat, a < 4 → ∀ d : Nat, d < 4 → (am_and (am_shr (am_or 0 (am_shl 1 (a : Int))) (d : Int)) 1 = 1 ↔ a = d) := by decide +kernel
theorem fp_b2F : ∀ a : Nat, a < 4 → ∀ b : Nat, b < 4 → ∀ d : Nat, d < 4 → (am_and (am_shr (am_or (am_or 0 (am_shl 1 (a : Int))) (am_shl 1 (b : Int))) (d : Int)) 1 = 1 ↔ a = d ∨ b = d) := by decide +kernel
theorem fp_b3FT : ((List.range 4).all (fun a : Nat => ((List.range 4).all (fun b : Nat => ((List.range 4).all (fun c : Nat => ((List.range 4).all (fun d : Nat => decide (am_and (am_shr (am_or (am_or (am_or 0 (am_shl 1 (a : Int))) (am_shl 1 (b : Int))) (am_shl 1 (c : Int))) (d : Int)) 1 = 1) == decide (a = d ∨ b = d ∨ c = d))))))))) = true := by decide +kernel
theorem fp_b3F : ∀ a : Nat, a < 4 → ∀ b : Nat, b < 4 → ∀ c : Nat, c < 4 → ∀ d : Nat, d < 4 → (am_and (am_shr (am_or (am_or (am_or 0 (am_shl 1 (a : Int))) (am_shl 1 (b : Int))) (am_shl 1 (c : Int))) (d : Int)) 1 = 1 ↔ a = d ∨ b = d ∨ c = d) := by
  intro a ha b hb c hc d hd
  have e0 := List.all_eq_true.mp fp_b3FT a (List.mem_range.mpr ha)
  have e1 := List.all_eq_true.mp e0 b (List.mem_range.mpr hb)
  have e2 := List.all_eq_true.mp e1 c (List.mem_range.mpr hc)
  have e3 := List.all_eq_true.mp e2 d (List.mem_range.mpr hd)
  exact decide_eq_decide.mp (eq_of_beq e3)
theorem fp_b0F : ∀ d : Nat, d < 4 → am_and (am_shr 0 (d : Int)) 1 ≠ 1 := by decide +kernel
theorem fp_b9F : ∀ x : Nat, x < 16 → ∀ d : Nat, d < 4 → am_c (am_and (am_shr (x : Int) (d : Int)) 1) = am_and (am_shr (x : Int) (d : Int)) 1 := by decide +kernel
theorem fp_oc_b {v n : Nat} (hn : n ≤ 4) : ∀ p : Nat, (∀ q : Nat, q < p → fp_dt v q < n) → 0 ≤ fp_oc v p ∧ fp_oc v p ≤ 15 := by
  intro p
  induction p with
  | zero => intro _; exact ⟨Int.le_refl 0, (show (0 : Int) ≤ 15 by decide)⟩
  | succ p ih =>
    intro h
    have q := ih (fun q hq => h q (by omega))
    have d := h p (by omega)
    exact fp_or1 q.1 q.2 (by omega) (by omega)
theorem fp_bitM {v p d : Nat} (hp : p ≤ 3) (h : ∀ q : Nat, q < p → fp_dt v q < 4) (hd : d < 4) : am_and (am_shr (fp_oc v p) (d : Int)) 1 = 1 ↔ ∃ q : Nat, q < p ∧ fp_dt v q = d := by
  rcases (show p = 0 ∨ p = 1 ∨ p = 2 ∨ p = 3 by omega) with rfl | rfl | rfl | rfl
  · exact ⟨fun z => absurd z (fp_b0F d hd), fun ⟨q, hq, _⟩ => absurd hq (by omega)⟩
  · have z := fp_b1F _ (h 0 (by decide)) d hd
    exact ⟨fun y => ⟨0, by decide, z.1 y⟩, fun ⟨q, hq, e⟩ => z.2 (by rw [show q = 0 by omega] at e; exact e)⟩
  · have z := fp_b2F _ (h 0 (by decide)) _ (h 1 (by decide)) d hd
    refine ⟨fun y => ?_, fun ⟨q, hq, e⟩ => z.2 ?_⟩
    · rcases z.1 y with x | x
      · exact ⟨0, by decide, x⟩
      · exact ⟨1, by decide, x⟩
    · rcases (show q = 0 ∨ q = 1 by omega) with rfl | rfl
      · exact Or.inl e
      · exact Or.inr e
  · have z := fp_b3F _ (h 0 (by decide)) _ (h 1 (by decide)) _ (h 2 (by decide)) d hd
    refine ⟨fun y => ?_, fun ⟨q, hq, e⟩ => z.2 ?_⟩
    · rcases z.1 y with x | x | x
      · exact ⟨0, by decide, x⟩
      · exact ⟨1, by decide, x⟩
      · exact ⟨2, by decide, x⟩
    · rcases (show q = 0 ∨ q = 1 ∨ q = 2 by omega) with rfl | rfl | rfl
      · exact Or.inl e
      · exact Or.inr (Or.inl e)
      · exact Or.inr (Or.inr e)
theorem fp_bitc {x d : Int} (x0 : 0 ≤ x) (x1 : x ≤ 15) (d0 : 0 ≤ d) (d1 : d < 4) : am_c (am_and (am_shr x d) 1) = am_and (am_shr x d) 1 := by
  have h := fp_b9F x.toNat (by omega) d.toNat (by omega)
  rw [Int.toNat_of_nonneg x0, Int.toNat_of_nonneg d0] at h
  exact h
theorem fp_s1_b {n : Int} (h0 : 0 ≤ n) (h1 : n ≤ 4) : am_c (am_shl 1 n - 1) = am_shl 1 n - 1 := by
  rcases (show n = 0 ∨ n = 1 ∨ n = 2 ∨ n = 3 ∨ n = 4 by omega) with rfl | rfl | rfl | rfl | rfl <;> decide +kernel
def fp_wD (T S : Nat → Int) (n D : Int) (c : Nat) : Int := fp_ew c n.toNat * fp_dA (fun j => fp_pt (T j) (S j) (fp_cp (fp_ej c j))) n D
theorem fp_wD_o {F : am_N} {n D : Int} (e : F 0 4 = n) (h0 : 0 ≤ n) (h1 : n ≤ 4) : fp_su (fp_wD (fp_tf F) (F 4) n D) (fp_3n n.toNat) = fp_oA F D := by
  have h := fp_t34' (fp_tf F) (F 4) n.toNat (by omega) (fun t => fp_dA t n D) (fun t u h => fp_dA_e h1 (fun q hq => h q (by omega)))
  unfold fp_oA
  rw [e]
  exact h.symm
theorem fp_wD_s {T S : Nat → Int} {n D : Int} {c : Nat} : fp_su (fp_wD T S n D) (c + 1) = fp_su (fp_wD T S n D) c + fp_ew c n.toNat * (if am_dg (fun p => fp_od (fun j => fp_pt (T j) (S j) (fp_cp (fp_ej c j))) n (p : Int)) n.toNat 0 = D then 1 else 0) := rfl
def fp_odr (F : am_N) (v w : Int) : Int := if ¬(0 ≤ v ∧ fp_eoB (F 0 4).toNat v.toNat) then 4000000000000000001 else if ¬(w = 0 ∨ w = 1) then 4000000000000000002 else fp_fr (fp_oA F v) (fp_al2 F) w
def fp_r3 (a b c : Int) (e : Nat) : Int := if e = 0 then a else if e = 1 then b else c
theorem fp_r3_p {t s : Int} {e : Nat} (he : e < 3) : fp_r3 (fp_pt t s 0) t (t + s) e = fp_pt t s (fp_cp e) := by
  rcases (show e = 0 ∨ e = 1 ∨ e = 2 by omega) with rfl | rfl | rfl <;> rfl
/-- digits of an order are canonical -/
theorem am_dg_b {f : Int → Int} (h : ∀ p : Int, 0 ≤ f p ∧ f p ≤ 3) : ∀ (m : Nat) (v : Int), 0 ≤ v → v ≤ 3333 → m ≤ 4 → v < 10 ^ (4 - m) → 0 ≤ am_dg (fun p => f (p : Int)) m v ∧ am_dg (fun p => f (p : Int)) m v ≤ 99999 := by
  intro m
  induction m with
  | zero => intro v h0 h1 _ _; exact ⟨h0, by show v ≤ 99999; omega⟩
  | succ m ih =>
    intro v h0 h1 hm hv
    have q := h (m : Int)
    show 0 ≤ am_dg (fun p => f (p : Int)) m (10 * v + f (m : Int)) ∧ am_dg (fun p => f (p : Int)) m (10 * v + f (m : Int)) ≤ 99999
    rcases (show m = 0 ∨ m = 1 ∨ m = 2 ∨ m = 3 by omega) with rfl | rfl | rfl | rfl
    · have hv : v < 1000 := hv; show 0 ≤ 10 * v + f 0 ∧ 10 * v + f 0 ≤ 99999; have q : 0 ≤ f 0 ∧ f 0 ≤ 3 := q; omega
    · have hv : v < 100 := hv; exact ih _ (by omega) (by omega) (by omega) (by show _ < (1000 : Int); omega)
    · have hv : v < 10 := hv; exact ih _ (by omega) (by omega) (by omega) (by show _ < (100 : Int); omega)
    · have hv : v < 1 := hv; exact ih _ (by omega) (by omega) (by omega) (by show _ < (10 : Int); omega)
theorem am_dg_c {n : Int} (hn : n ≤ 4) (f : Int → Int) (h : ∀ p : Int, 0 ≤ f p ∧ f p ≤ 3) : am_c (am_dg (fun p => f (p : Int)) n.toNat 0) = am_dg (fun p => f (p : Int)) n.toNat 0 := by
  have b := am_dg_b h n.toNat 0 (by decide) (by decide) (by omega) (by rcases (show n.toNat = 0 ∨ n.toNat = 1 ∨ n.toNat = 2 ∨ n.toNat = 3 ∨ n.toNat = 4 by omega) with z | z | z | z | z <;> rw [z] <;> decide)
  exact am_cR (by omega) (by omega)
