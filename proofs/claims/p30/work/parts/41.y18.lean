/-! LIKELY: all races -/
def fp_su (f : Nat → Int) : Nat → Int
  | 0 => 0
  | k + 1 => fp_su f k + f k
theorem fp_su_e {f g : Nat → Int} : ∀ N : Nat, (∀ k : Nat, k < N → f k = g k) → fp_su f N = fp_su g N := by
  intro N
  induction N with
  | zero => intro _; rfl
  | succ N ih =>
    intro h
    show fp_su f N + f N = fp_su g N + g N
    rw [ih (fun k hk => h k (by omega)), h N (by omega)]
theorem fp_su_a (f : Nat → Int) (a : Nat) : ∀ b : Nat, fp_su f (a + b) = fp_su f a + fp_su (fun q => f (a + q)) b := by
  intro b
  induction b with
  | zero => exact (Int.add_zero _).symm
  | succ b ih =>
    show fp_su f (a + b) + f (a + b) = fp_su f a + (fp_su (fun q => f (a + q)) b + f (a + b))
    rw [ih, Int.add_assoc]
theorem fp_su_m (g : Nat → Int) (c : Int) : ∀ N : Nat, fp_su (fun k => g k * c) N = fp_su g N * c := by
  intro N
  induction N with
  | zero => exact (Int.zero_mul _).symm
  | succ N ih =>
    show fp_su (fun k => g k * c) N + g N * c = (fp_su g N + g N) * c
    rw [ih, Int.add_mul]
theorem fp_su_p (f g : Nat → Int) : ∀ N : Nat, fp_su (fun k => f k + g k) N = fp_su f N + fp_su g N := by
  intro N
  induction N with
  | zero => rfl
  | succ N ih =>
    show fp_su (fun k => f k + g k) N + (f N + g N) = (fp_su f N + f N) + (fp_su g N + g N)
    rw [ih]
    omega
/-- the part of a runner in a race's number -/
def fp_dj (k j : Nat) : Nat := k / 4 ^ j % 4
theorem fp_dj_4 (k j : Nat) : fp_dj k j < 4 := Nat.mod_lt _ (by decide)
theorem fp_dj_l {n j q d : Nat} (hj : j < n) (hn : n ≤ 3) : fp_dj (d * 4 ^ n + q) j = fp_dj q j := by
  unfold fp_dj
  rcases (show (n = 1 ∧ j = 0) ∨ (n = 2 ∧ j = 0) ∨ (n = 2 ∧ j = 1) ∨ (n = 3 ∧ j = 0) ∨ (n = 3 ∧ j = 1) ∨ (n = 3 ∧ j = 2) by omega) with ⟨rfl, rfl⟩ | ⟨rfl, rfl⟩ | ⟨rfl, rfl⟩ | ⟨rfl, rfl⟩ | ⟨rfl, rfl⟩ | ⟨rfl, rfl⟩
  · show (d * 4 + q) / 1 % 4 = q / 1 % 4; omega
  · show (d * 16 + q) / 1 % 4 = q / 1 % 4; omega
  · show (d * 16 + q) / 4 % 4 = q / 4 % 4; omega
  · show (d * 64 + q) / 1 % 4 = q / 1 % 4; omega
  · show (d * 64 + q) / 4 % 4 = q / 4 % 4; omega
  · show (d * 64 + q) / 16 % 4 = q / 16 % 4; omega
theorem fp_dj_t {n q d : Nat} (hq : q < 4 ^ n) (hd : d < 4) (hn : n ≤ 3) : fp_dj (d * 4 ^ n + q) n = d := by
  unfold fp_dj
  rcases (show n = 0 ∨ n = 1 ∨ n = 2 ∨ n = 3 by omega) with rfl | rfl | rfl | rfl
  · have hq : q < 1 := hq; show (d * 1 + q) / 1 % 4 = d; omega
  · have hq : q < 4 := hq; show (d * 4 + q) / 4 % 4 = d; omega
  · have hq : q < 16 := hq; show (d * 16 + q) / 16 % 4 = d; omega
  · have hq : q < 64 := hq; show (d * 64 + q) / 64 % 4 = d; omega
theorem fp_su_4 {f g c : Nat → Int} {n : Nat} (h : ∀ d q : Nat, d < 4 → q < 4 ^ n → f (d * 4 ^ n + q) = g q * c d) : fp_su f (4 ^ (n + 1)) = fp_su g (4 ^ n) * (c 0 + c 1 + c 2 + c 3) := by
  have e : ∀ d o : Nat, d < 4 → o = d * 4 ^ n → fp_su (fun q => f (o + q)) (4 ^ n) = fp_su g (4 ^ n) * c d := fun d o hd ho => by
    rw [fp_su_e (g := fun q => g q * c d) _ (fun q hq => by show f (o + q) = _; rw [ho]; exact h d q hd hq)]
    exact fp_su_m g (c d) _
  have e0 := e 0 0 (by decide) (by omega)
  have e1 := e 1 (4 ^ n) (by decide) (by omega)
  have e2 := e 2 (4 ^ n + 4 ^ n) (by decide) (by omega)
  have e3 := e 3 (4 ^ n + 4 ^ n + 4 ^ n) (by decide) (by omega)
  rw [show 4 ^ (n + 1) = 4 ^ n + 4 ^ n + 4 ^ n + 4 ^ n by rw [Nat.pow_succ]; omega, fp_su_a f (4 ^ n + 4 ^ n + 4 ^ n), fp_su_a f (4 ^ n + 4 ^ n), fp_su_a f (4 ^ n), e1, e2, e3, Int.mul_add, Int.mul_add, Int.mul_add, ← e0]
  rw [show (fun q => f (0 + q)) = f from funext (fun q => by rw [Nat.zero_add])]
/-- one behind v: 1, else 0 -/
def fp_b1 (v a : Int) : Int := if v ≤ a then 1 else 0
theorem fp_b1_q {v u r : Int} (hr : 0 ≤ r) (hu : 1 ≤ u) : fp_b1 v (fp_pt u r 0) + fp_b1 v (fp_pt u r 1) + fp_b1 v (fp_pt u r 2) + fp_b1 v (fp_pt u r 3) = fp_qu (fp_pt u r 0) u (u + r) v := by
  have h0 : fp_pt u r 0 ≤ u := by rw [fp_pt_0]; split <;> omega
  show fp_b1 v (fp_pt u r 0) + fp_b1 v u + fp_b1 v u + fp_b1 v (u + r) = _
  unfold fp_b1 fp_qu
  (repeat' split) <;> omega
/-- all others of the first j are behind r, who takes t: 1, else 0 -/
def fp_bn (T s : Nat → Int) (r : Nat) (t : Int) (k : Nat) : Nat → Int
  | 0 => 1
  | j + 1 => if j = r then fp_bn T s r t k j else fp_bn T s r t k j * fp_b1 (if j < r then t + 1 else t) (fp_pt (T j) (s j) (fp_dj k j))
theorem fp_bn_r {T s : Nat → Int} {r k : Nat} {t : Int} : fp_bn T s r t k (r + 1) = fp_bn T s r t k r := if_pos rfl
theorem fp_bn_s {T s : Nat → Int} {r k n : Nat} {t : Int} (h : n ≠ r) : fp_bn T s r t k (n + 1) = fp_bn T s r t k n * fp_b1 (if n < r then t + 1 else t) (fp_pt (T n) (s n) (fp_dj k n)) := if_neg h
theorem fp_bn_e {T s : Nat → Int} {r k q : Nat} {t : Int} : ∀ n : Nat, (∀ j : Nat, j < n → fp_dj k j = fp_dj q j) → fp_bn T s r t k n = fp_bn T s r t q n := by
  intro n
  induction n with
  | zero => intro _; rfl
  | succ n ih =>
    intro h
    simp only [fp_bn]
    rw [ih (fun j hj => h j (by omega)), h n (by omega)]
def fp_wl (T s : Nat → Int) (r : Nat) (t : Int) (n : Nat) : Int := fp_wa (fun q => fp_pt (T q) (s q) 0) T (fun q => T q + s q) r t n
theorem fp_wl_s {T s : Nat → Int} {r n : Nat} {t : Int} (h : n ≠ r) : fp_wl T s r t (n + 1) = fp_wl T s r t n * fp_qu (fp_pt (T n) (s n) 0) (T n) (T n + s n) (if n < r then t + 1 else t) := if_neg h
theorem fp_wl_r {T s : Nat → Int} {r : Nat} {t : Int} : fp_wl T s r t (r + 1) = fp_wl T s r t r := if_pos rfl
theorem fp_sA {T s : Nat → Int} {r : Nat} {t : Int} (hT : ∀ j : Nat, j < 4 → 1 ≤ T j) (hs : ∀ j : Nat, j < 4 → 0 ≤ s j) : ∀ n : Nat, n ≤ r → n ≤ 4 → fp_su (fun k => fp_bn T s r t k n) (4 ^ n) = fp_wl T s r t n := by
  intro n
  induction n with
  | zero => intro _ _; rfl
  | succ n ih =>
    intro h1 h2
    rw [fp_wl_s (by omega), ← ih (by omega) (by omega), ← fp_b1_q (hs n (by omega)) (hT n (by omega))]
    exact fp_su_4 (g := fun k => fp_bn T s r t k n) (c := fun d => fp_b1 (if n < r then t + 1 else t) (fp_pt (T n) (s n) d)) (fun d q hd hq => by
      show fp_bn T s r t (d * 4 ^ n + q) (n + 1) = _
      rw [fp_bn_s (by omega), fp_dj_t hq hd (by omega), fp_bn_e n (fun j hj => fp_dj_l hj (by omega))])
theorem fp_sB {T s : Nat → Int} {r e : Nat} {t : Int} (hT : ∀ j : Nat, j < 4 → 1 ≤ T j) (hs : ∀ j : Nat, j < 4 → 0 ≤ s j) (he : e < 4) : ∀ n : Nat, r < n → n ≤ 4 → fp_su (fun k => (if fp_dj k r = e then 1 else 0) * fp_bn T s r t k n) (4 ^ n) = fp_wl T s r t n := by
  intro n
  induction n with
  | zero => intro h; exact absurd h (by omega)
  | succ n ih =>
    intro h1 h2
    by_cases dn : n = r
    · subst dn
      rw [fp_wl_r, ← fp_sA hT hs n (Nat.le_refl _) (by omega)]
      refine (fp_su_4 (g := fun k => fp_bn T s n t k n) (c := fun d => if d = e then 1 else 0) (fun d q hd hq => ?_)).trans ?_
      · show (if fp_dj (d * 4 ^ n + q) n = e then (1 : Int) else 0) * fp_bn T s n t (d * 4 ^ n + q) (n + 1) = _
        rw [fp_bn_r, fp_dj_t hq hd (by omega), fp_bn_e n (fun j hj => fp_dj_l hj (by omega))]
        exact Int.mul_comm _ _
      · show fp_su (fun k => fp_bn T s n t k n) (4 ^ n) * ((if 0 = e then (1 : Int) else 0) + (if 1 = e then 1 else 0) + (if 2 = e then 1 else 0) + (if 3 = e then 1 else 0)) = _
        rw [show ((if 0 = e then (1 : Int) else 0) + (if 1 = e then 1 else 0) + (if 2 = e then 1 else 0) + (if 3 = e then 1 else 0)) = 1 by rcases (show e = 0 ∨ e = 1 ∨ e = 2 ∨ e = 3 by omega) with rfl | rfl | rfl | rfl <;> rfl]
        exact Int.mul_one _
    · rw [fp_wl_s dn, ← ih (by omega) (by omega), ← fp_b1_q (hs n (by omega)) (hT n (by omega))]
      exact fp_su_4 (g := fun k => (if fp_dj k r = e then 1 else 0) * fp_bn T s r t k n) (c := fun d => fp_b1 (if n < r then t + 1 else t) (fp_pt (T n) (s n) d)) (fun d q hd hq => by
        show (if fp_dj (d * 4 ^ n + q) r = e then (1 : Int) else 0) * fp_bn T s r t (d * 4 ^ n + q) (n + 1) = _
        rw [fp_bn_s dn, fp_dj_t hq hd (by omega), fp_bn_e n (fun j hj => fp_dj_l hj (by omega)), fp_dj_l (by omega) (by omega)]
        exact (Int.mul_assoc _ _ _).symm)
/-- who is first in the race of a number -/
def fp_fi (T s : Nat → Int) (n : Int) (k : Nat) : Int := fp_od (fun j => fp_pt (T j) (s j) (fp_dj k j)) n 0
theorem fp_bn_c {T s : Nat → Int} {r k : Nat} : ∀ m : Nat, (am_cnt (fun j => fp_pt (T j) (s j) (fp_dj k j)) r m = 0 ∧ fp_bn T s r (fp_pt (T r) (s r) (fp_dj k r)) k m = 1) ∨ (1 ≤ am_cnt (fun j => fp_pt (T j) (s j) (fp_dj k j)) r m ∧ fp_bn T s r (fp_pt (T r) (s r) (fp_dj k r)) k m = 0) := by
  intro m
  induction m with
  | zero => exact Or.inl ⟨rfl, rfl⟩
  | succ m ih =>
    simp only [am_cnt, fp_bn]
    by_cases d : m = r
    · subst d
      rw [if_neg (by omega), if_pos rfl, Int.add_zero]
      exact ih
    · rw [if_neg d]
      unfold fp_b1
      by_cases c : fp_pt (T m) (s m) (fp_dj k m) < fp_pt (T r) (s r) (fp_dj k r) ∨ (fp_pt (T m) (s m) (fp_dj k m) = fp_pt (T r) (s r) (fp_dj k r) ∧ m < r)
      · rw [if_pos c, if_neg (by split <;> omega), Int.mul_zero]
        refine Or.inr ⟨?_, rfl⟩
        rcases ih with ⟨q, -⟩ | ⟨q, -⟩ <;> omega
      · rw [if_neg c, if_pos (by split <;> omega), Int.mul_one, Int.add_zero]
        exact ih
theorem fp_fi_in {T s : Nat → Int} {r k n : Nat} (hr : r < n) (hn : n ≤ 4) : (if fp_fi T s (n : Int) k = (r : Int) then (1 : Int) else 0) = fp_bn T s r (fp_pt (T r) (s r) (fp_dj k r)) k n := by
  rcases fp_bn_c (T := T) (s := s) (r := r) (k := k) n with ⟨h1, h2⟩ | ⟨h1, h2⟩
  · rw [h2, if_pos]
    exact fp_od_i (by omega) (by omega) (by rw [Int.toNat_natCast]; exact h1)
  · rw [h2, if_neg]
    intro z
    obtain ⟨i, hi, hc⟩ := am_cnt_s (fun j => fp_pt (T j) (s j) (fp_dj k j)) (m := n) hn 0 (by omega)
    have y : fp_fi T s (n : Int) k = (i : Int) := fp_od_i (by omega) (by omega) (by rw [Int.toNat_natCast]; exact hc)
    rw [y] at z
    have z : i = r := by omega
    subst z
    rw [hc] at h1
    exact absurd h1 (by decide)
/-- the count over all races is the product -/
theorem fp_lk {T s : Nat → Int} {r n : Nat} (hT : ∀ j : Nat, j < 4 → 1 ≤ T j) (hs : ∀ j : Nat, j < 4 → 0 ≤ s j) (hr : r < n) (hn : n ≤ 4) : fp_su (fun k => if fp_fi T s (n : Int) k = (r : Int) then 1 else 0) (4 ^ n) = fp_wy (fun q => fp_pt (T q) (s q) 0) T (fun q => T q + s q) n r := by
  have e : ∀ k : Nat, (if fp_fi T s (n : Int) k = (r : Int) then (1 : Int) else 0) = (((if fp_dj k r = 0 then 1 else 0) * fp_bn T s r (fp_pt (T r) (s r) 0) k n + (if fp_dj k r = 1 then 1 else 0) * fp_bn T s r (T r) k n) + (if fp_dj k r = 2 then 1 else 0) * fp_bn T s r (T r) k n) + (if fp_dj k r = 3 then 1 else 0) * fp_bn T s r (T r + s r) k n := fun k => by
    rw [fp_fi_in hr hn]
    have h4 := fp_dj_4 k r
    generalize fp_dj k r = d at h4 ⊢
    rcases (show d = 0 ∨ d = 1 ∨ d = 2 ∨ d = 3 by omega) with rfl | rfl | rfl | rfl
    · show _ = ((1 * _ + 0 * _) + 0 * _) + 0 * _; omega
    · show fp_bn T s r (T r) k n = ((0 * _ + 1 * _) + 0 * _) + 0 * _; omega
    · show fp_bn T s r (T r) k n = ((0 * _ + 0 * _) + 1 * _) + 0 * _; omega
    · show fp_bn T s r (T r + s r) k n = ((0 * _ + 0 * _) + 0 * _) + 1 * _; omega
  rw [fp_su_e _ (fun k _ => e k), fp_su_p, fp_su_p, fp_su_p, fp_sB hT hs (by decide) n hr hn, fp_sB hT hs (by decide) n hr hn, fp_sB hT hs (by decide) n hr hn, fp_sB hT hs (by decide) n hr hn]
  show _ = fp_wl T s r (fp_pt (T r) (s r) 0) n + 2 * fp_wl T s r (T r) n + fp_wl T s r (T r + s r) n
  omega
theorem fp_wa_e {L M H L' M' H' : Nat → Int} {i : Nat} {t : Int} : ∀ n : Nat, (∀ j : Nat, j < n → L j = L' j ∧ M j = M' j ∧ H j = H' j) → fp_wa L M H i t n = fp_wa L' M' H' i t n := by
  intro n
  induction n with
  | zero => intro _; rfl
  | succ n ih =>
    intro h
    simp only [fp_wa]
    obtain ⟨h1, h2, h3⟩ := h n (by omega)
    rw [ih (fun j hj => h j (by omega)), h1, h2, h3]
theorem fp_wy_e {L M H L' M' H' : Nat → Int} {n i : Nat} (hi : i < n) (h : ∀ j : Nat, j < n → L j = L' j ∧ M j = M' j ∧ H j = H' j) : fp_wy L M H n i = fp_wy L' M' H' n i := by
  obtain ⟨h1, h2, h3⟩ := h i hi
  unfold fp_wy
  rw [fp_wa_e n h, fp_wa_e n h, fp_wa_e n h, h1, h2, h3]
theorem fp_wa_b (L M H : Nat → Int) (i : Nat) (t : Int) : ∀ n : Nat, 0 ≤ fp_wa L M H i t n ∧ fp_wa L M H i t n ≤ (4 ^ n : Nat) := by
  intro n
  induction n with
  | zero => exact ⟨(by first | exact Int.le_refl 0 | (show (0 : Int) ≤ 1; decide) | (show (0 : Int) ≤ _; decide) | (show _ ≤ (0 : Int); decide) | (show (1 : Int) ≤ _; decide) | (show (0 : Int) < _; decide)), (by first | exact Int.le_refl 0 | (show (0 : Int) ≤ 1; decide) | (show (0 : Int) ≤ _; decide) | (show _ ≤ (0 : Int); decide) | (show (1 : Int) ≤ _; decide) | (show (0 : Int) < _; decide))⟩
  | succ n ih =>
    simp only [fp_wa]
    have e : (((4 ^ (n + 1) : Nat)) : Int) = (4 ^ n : Nat) * 4 := by rw [Nat.pow_succ]; omega
    split
    · rw [e]; omega
    · have q := fp_qu_b (L n) (M n) (H n) (if n < i then t + 1 else t)
      rw [e]
      exact am_mulb ih.1 ih.2 q.1 q.2
theorem fp_wa_b4 (L M H : Nat → Int) (i : Nat) (t : Int) {n : Nat} (hn : n ≤ 4) : 0 ≤ fp_wa L M H i t n ∧ fp_wa L M H i t n ≤ 256 := by
  have h := fp_wa_b L M H i t n
  refine ⟨h.1, Int.le_trans h.2 ?_⟩
  rcases (show n = 0 ∨ n = 1 ∨ n = 2 ∨ n = 3 ∨ n = 4 by omega) with rfl | rfl | rfl | rfl | rfl <;> decide
/-- in how many of all races one is first -/
def fp_lw (F : am_N) (r : Nat) : Int := fp_wy (fun q => fp_pt (fp_tf F q) (F 4 q) 0) (fp_tf F) (fun q => fp_tf F q + F 4 q) (F 0 4).toNat r
theorem fp_lw_b {F : am_N} (h4 : F 0 4 ≤ 4) (r : Nat) : 0 ≤ fp_lw F r ∧ fp_lw F r ≤ 1024 := by
  have q := fun t => fp_wa_b4 (fun q => fp_pt (fp_tf F q) (F 4 q) 0) (fp_tf F) (fun q => fp_tf F q + F 4 q) r t (n := (F 0 4).toNat) (by omega)
  unfold fp_lw fp_wy
  have a := q (fp_pt (fp_tf F r) (F 4 r) 0)
  have b := q (fp_tf F r)
  have c := q (fp_tf F r + F 4 r)
  simp only
  omega
/-- of all races -/
def fp_al2 (F : am_N) : Int := am_shl 1 (2 * F 0 4)
theorem fp_al2_n {n : Int} (h0 : 0 ≤ n) (h1 : n ≤ 4) : am_shl 1 (2 * n) = ((4 ^ n.toNat : Nat) : Int) := by
  rcases (show n = 0 ∨ n = 1 ∨ n = 2 ∨ n = 3 ∨ n = 4 by omega) with rfl | rfl | rfl | rfl | rfl <;> decide +kernel
theorem fp_al2_b {n : Int} (h0 : 0 ≤ n) (h1 : n ≤ 4) : 1 ≤ am_shl 1 (2 * n) ∧ am_shl 1 (2 * n) ≤ 256 := by
  rw [fp_al2_n h0 h1]
  rcases (show n = 0 ∨ n = 1 ∨ n = 2 ∨ n = 3 ∨ n = 4 by omega) with rfl | rfl | rfl | rfl | rfl <;> decide
theorem fp_djF : ∀ (k : Fin 256) (r : Fin 4), am_and (am_shr ((k : Nat) : Int) (2 * ((r : Nat) : Int))) 3 = ((fp_dj (k : Nat) (r : Nat) : Nat) : Int) := by decide +kernel
theorem fp_djm {k r : Int} (k0 : 0 ≤ k) (k1 : k < 256) (r0 : 0 ≤ r) (r1 : r < 4) : am_and (am_shr k (2 * r)) 3 = ((fp_dj k.toNat r.toNat : Nat) : Int) := by
  have h := fp_djF ⟨k.toNat, by omega⟩ ⟨r.toNat, by omega⟩
  simp only [Int.toNat_of_nonneg k0, Int.toNat_of_nonneg r0] at h
  exact h
theorem fp_fi_b (T s : Nat → Int) (n : Int) (k : Nat) : 0 ≤ fp_fi T s n k ∧ fp_fi T s n k ≤ 3 := fp_od_b _ _ _
theorem fp_su_b {f : Nat → Int} (h : ∀ k : Nat, 0 ≤ f k ∧ f k ≤ 1) : ∀ N : Nat, 0 ≤ fp_su f N ∧ fp_su f N ≤ (N : Int) := by
  intro N
  induction N with
  | zero => exact ⟨(by first | exact Int.le_refl 0 | (show (0 : Int) ≤ 1; decide) | (show (0 : Int) ≤ _; decide) | (show _ ≤ (0 : Int); decide) | (show (1 : Int) ≤ _; decide) | (show (0 : Int) < _; decide)), (by first | exact Int.le_refl 0 | (show (0 : Int) ≤ 1; decide) | (show (0 : Int) ≤ _; decide) | (show _ ≤ (0 : Int); decide) | (show (1 : Int) ≤ _; decide) | (show (0 : Int) < _; decide))⟩
  | succ N ih =>
    have q := h N
    show 0 ≤ fp_su f N + f N ∧ fp_su f N + f N ≤ _
    omega
theorem n_races {l : Launch} {ν : am_N} {Q : Option am_V → am_N → Prop} (k : Q (some (.inl (am_shl 1 (2 * ν 83 14)))) ν) : am_Does l 169 [.inr (.inr 83)] ν Q := by
  refine am_Does_of (Nat.le_of_ble_eq_true rfl) (Nat.le_of_ble_eq_true rfl) (Nat.le_of_ble_eq_true rfl) ?_
  refine am_go (ct := fun _ => false) am_oX7_races 300 ?_
  conv => whnf
  repeat' first
    | (refine (?_ : am_wp _ _ _ _ _ _ _ _ _ _ _ _); conv => whnf)
    | (refine (?_ : am_sw _ _ _ _); conv => whnf)
    | refine And.intro trivial ?_
    | exact trivial
    | exact k
    | refine And.intro (fun h => absurd h (by decide)) (fun _ => ?_)
    | refine And.intro (fun _ => ?_) (fun h => absurd (by decide) h)
    | refine And.intro (fun _ => ?_) (fun _ => ?_)
    | refine And.intro ?_ ?_
  all_goals (first | decide | (trace_state; fail))
theorem x_partTime {l : Launch} {ν : am_N} {Q : Option am_V → am_N → Prop} (r p : Int) (hf : am_fM ν) (r0 : 0 ≤ r) (r1 : r < ν 83 14) (sp : 0 ≤ ν 88 r.toNat ∧ ν 88 r.toNat ≤ 20) (p0 : 0 ≤ p) (p1 : p < 4) (k : ∀ v : Int, v = fp_pt (am_TM ν r.toNat) (ν 88 r.toNat) (p.toNat) → 1 ≤ v → v ≤ 100020 → Q (some (.inl v)) ν) : am_Does l 167 [.inr (.inr 83), .inl r, .inl p] ν Q := by
  refine am_Does_of (Nat.le_of_ble_eq_true rfl) (Nat.le_of_ble_eq_true rfl) (Nat.le_of_ble_eq_true rfl) ?_
  have l0 : am_c 0 = 0 := rfl
  have l1 : am_c 1 = 1 := rfl
  have l2 : am_c 2 = 2 := rfl
  have l3 : am_c 3 = 3 := rfl
  have l4 : am_c 4 = 4 := rfl
  have l20 : am_c 20 = 20 := rfl
  have l200 : am_c 200 = 200 := rfl
  have n4 := hf.1
  have cr : am_c r = r := am_cR (by omega) (by omega)
  have cp : am_c p = p := am_cR (by omega) (by omega)
  have z := am_TM_b (i := r.toNat) hf (by omega)
  have hb := fp_pt_b (t := am_TM ν r.toNat) (s := ν 88 r.toNat) (q := p.toNat) z.1 (by omega) sp.1 sp.2
  have kk := fun (x : Int) (e : x = fp_pt (am_TM ν r.toNat) (ν 88 r.toNat) (p.toNat)) => am_qe (k _ rfl hb.1 hb.2) e
  refine am_go (ct := fun _ => false) am_oX7_partTime 300 ?_
  conv => whnf
  repeat' first
    | (refine (?_ : am_wp _ _ _ _ _ _ _ _ _ _ _ _); conv => whnf)
    | (refine (?_ : am_sw _ _ _ _); conv => whnf)
    | refine And.intro trivial ?_
    | exact trivial
    | refine x_timeOf _ r0 r1 hf ?_
    | refine x_atLeastOne _ ?_ ?_ ?_
    | refine kk _ ?_
    | refine And.intro (fun h => absurd h (by decide)) (fun _ => ?_)
    | refine And.intro (fun _ => ?_) (fun h => absurd (by decide) h)
    | refine And.intro (fun _ => ?_) (fun _ => ?_)
    | refine And.intro ?_ ?_
  all_goals (first | decide | omega | (rw [cr]; omega) | (simp only [cr]; omega) | ((try simp only [cr]); unfold fp_pt; first | (rw [if_pos (show p.toNat = 0 by simp only [cp, l0, l3] at *; omega)]) | (rw [if_neg (show ¬ p.toNat = 0 by simp only [cp, l0, l3] at *; omega), if_pos (show p.toNat = 3 by simp only [cp, l0, l3] at *; omega)]) | (rw [if_neg (show ¬ p.toNat = 0 by simp only [cp, l0, l3] at *; omega), if_neg (show ¬ p.toNat = 3 by simp only [cp, l0, l3] at *; omega)])) | (trace_state; fail))
theorem x_takesParts {l : Launch} {ν : am_N} {Q : Option am_V → am_N → Prop} (g : Int) (hf : am_fM ν) (hs : ∀ q : Nat, (q : Int) < ν 83 14 → 0 ≤ ν 88 q ∧ ν 88 q ≤ 20) (g0 : 0 ≤ g) (g1 : g < 256) (k : ∀ μ' : am_N, (∀ a b, a ≠ 99 → a ≠ 100 → μ' a b = ν a b) → am_isord μ' 100 (fun q : Nat => fp_pt (am_TM ν q) (ν 88 q) (fp_dj g.toNat q)) (ν 83 14) → (∀ i : Nat, (i : Int) < ν 83 14 → μ' 99 i = fp_pt (am_TM ν i) (ν 88 i) (fp_dj g.toNat i)) → (sx_3 ν 100 → sx_3 μ' 100) → Q none μ') : am_Does l 168 [.inr (.inr 83), .inl g] ν Q := by
  refine am_Does_of (Nat.le_of_ble_eq_true rfl) (Nat.le_of_ble_eq_true rfl) (Nat.le_of_ble_eq_true rfl) ?_
  have hn := hf.1
  have hq := @am_TM_b ν
  have lp2 : ∀ (m : Nat) (i : Int) (μ : am_N) , (∀ a b, a ≠ 99 → a ≠ 100 → μ a b = ν a b) → 0 ≤ i → i ≤ ν 83 14 → (∀ q : Nat, (q : Int) < i → μ 99 q = fp_pt (am_TM ν q) (ν 88 q) (fp_dj g.toNat q)) → (sx_3 ν 100 → sx_3 μ 100) → ν 83 14 - i < (m : Int) → am_AW l 0 (fun _ => 0) 168 Q 2 [some (.inr (.inr 83)), some (.inl g), some (.inl i)] [] μ := by
    intro m
    induction m with
    | zero =>
      intro i μ hv0 hv1 hv2 hv3 hv4 hm
      exfalso
      omega
    | succ m ih =>
      intro i μ hv0 hv1 hv2 hv3 hv4 hm
      have ci : am_c i = i := am_cR (by omega) (by omega)
      have cn : am_c (ν 83 14) = ν 83 14 := am_cR (by omega) (by omega)
      obtain ⟨h1, h2⟩ := am_fM_e hv0
      have h3 := h1 hf
      have e4 : μ 83 14 = ν 83 14 := hv0 83 14 (by decide) (by decide)
      have e88 : ∀ q, μ 88 q = ν 88 q := fun q => hv0 88 q (by decide) (by decide)
      have dj := fun q : i < 4 => fp_djm g0 g1 hv1 q
      have d4 := fp_dj_4 g.toNat i.toNat
      refine am_go (ct := fun pc => Nat.beq pc 2) am_oX7_takesParts 300 ?_
      conv => whnf
      repeat' first
        | (refine (?_ : am_wp _ _ _ _ _ _ _ _ _ _ _ _); conv => whnf)
        | (refine (?_ : am_sw _ _ _ _); conv => whnf)
        | refine And.intro trivial ?_
        | exact trivial
        | (have hi : i < ν 83 14 := (by simp only [ci, cn, e4] at *; omega); rw [dj (by omega)]; refine x_partTime _ _ h3 hv1 (by rw [e4]; exact hi) (by rw [e88]; exact hs i.toNat (by omega)) (by omega) (by omega) (fun v ev v0 v1 => ?_); rw [h2, e88, Int.toNat_natCast] at ev)
        | refine x_sorts ?_ ?_ ?_ (fun μ2 y1 y2 y3 => ?_)
        | refine k _ ?_ ?_ ?_ ?_
        | refine ih _ _ ?_ ?_ ?_ ?_ ?_ ?_
        | refine And.intro (fun h => absurd h (by decide)) (fun _ => ?_)
        | refine And.intro (fun _ => ?_) (fun h => absurd (by decide) h)
        | refine And.intro (fun _ => ?_) (fun _ => ?_)
        | refine And.intro ?_ ?_
      all_goals (first | decide | assumption | omega | rfl | exact fun z => y3 (hv4 z) | exact fun z => sx_3N (hv4 z) (by decide) | (rw [ci]; omega) | (simp only [ci, cn, e4] at *; omega) | (intro a b h1 h2; rw [am_upN h1]; exact hv0 a b h1 h2) | (intro q hq; by_cases d : (q : Int) = i; (rw [am_upS, if_pos ⟨rfl, by rw [ci]; omega⟩, show q = i.toNat by omega]; exact ev); (rw [am_upM (by rw [ci]; omega)]; exact hv3 q (by omega))) | (have ie : i = ν 83 14 := (by simp only [ci, cn, e4] at *; omega); first | (intro j hj; rw [e4] at hj; rw [hv3 j (by omega)]; have zz := @hq j hf (by omega); have yy := hs j (by omega); have xx := fp_pt_b (t := am_TM ν j) (s := ν 88 j) (q := fp_dj g.toNat j) zz.1 (by omega) yy.1 yy.2; omega) | (intro a b h1 h2; rw [y1 a b h2]; exact hv0 a b h1 h2) | (rw [e4] at y2; exact am_isord_t (fun j hj => hv3 j (by omega)) y2) | (intro j hj; rw [y1 _ _ (by decide)]; exact hv3 j (by omega))) | (trace_state; fail))
  have lp2' : ∀ (i : Int) (μ : am_N) , (∀ a b, a ≠ 99 → a ≠ 100 → μ a b = ν a b) → 0 ≤ i → i ≤ ν 83 14 → (∀ q : Nat, (q : Int) < i → μ 99 q = fp_pt (am_TM ν q) (ν 88 q) (fp_dj g.toNat q)) → (sx_3 ν 100 → sx_3 μ 100) → am_AW l 0 (fun _ => 0) 168 Q 2 [some (.inr (.inr 83)), some (.inl g), some (.inl i)] [] μ := fun i μ hv0 hv1 hv2 hv3 hv4 => lp2 ((ν 83 14 - i) + 1).toNat i μ hv0 hv1 hv2 hv3 hv4 (by omega)
  refine am_go (ct := fun pc => Nat.beq pc 2) am_oX7_takesParts 300 ?_
  conv => whnf
  repeat' first
    | (refine (?_ : am_wp _ _ _ _ _ _ _ _ _ _ _ _); conv => whnf)
    | (refine (?_ : am_sw _ _ _ _); conv => whnf)
    | refine And.intro trivial ?_
    | exact trivial
    | refine lp2' _ _ ?_ ?_ ?_ ?_ ?_
    | refine And.intro (fun h => absurd h (by decide)) (fun _ => ?_)
    | refine And.intro (fun _ => ?_) (fun h => absurd (by decide) h)
    | refine And.intro (fun _ => ?_) (fun _ => ?_)
    | refine And.intro ?_ ?_
  all_goals (first | decide | assumption | omega | rfl | exact fun z => z | exact fun _ _ _ _ => rfl | (intros; omega) | (trace_state; fail))
theorem x_findFirsts {l : Launch} {ν : am_N} {Q : Option am_V → am_N → Prop} (hf : am_fM ν) (hs : ∀ q : Nat, (q : Int) < ν 83 14 → 0 ≤ ν 88 q ∧ ν 88 q ≤ 20) (hp : sx_3 ν 100) (k : ∀ μ' : am_N, (∀ a b, a ≠ 99 → a ≠ 100 → a ≠ 104 → μ' a b = ν a b) → (1 ≤ ν 83 14 → ∀ r : Nat, r < 4 → μ' 104 r = fp_su (fun q => if fp_fi (am_TM ν) (ν 88) (ν 83 14) q = ((r : Nat) : Int) then 1 else 0) (4 ^ (ν 83 14).toNat)) → sx_3 μ' 100 → Q none μ') : am_Does l 182 [.inr (.inr 83)] ν Q := by
  refine am_Does_of (Nat.le_of_ble_eq_true rfl) (Nat.le_of_ble_eq_true rfl) (Nat.le_of_ble_eq_true rfl) ?_
  have l0 : am_c 0 = 0 := rfl
  have l1 : am_c 1 = 1 := rfl
  have l2 : am_c 2 = 2 := rfl
  have l3 : am_c 3 = 3 := rfl
  have l4 : am_c 4 = 4 := rfl
  have l20 : am_c 20 = 20 := rfl
  have l200 : am_c 200 = 200 := rfl
  have hn := hf.1
  have al := fp_al2_b hn.1 hn.2
  have cA : am_c (am_shl 1 (2 * ν 83 14)) = am_shl 1 (2 * ν 83 14) := am_cR (by omega) (by omega)
  have eA := fp_al2_n hn.1 hn.2
  have cn : am_c (ν 83 14) = ν 83 14 := am_cR (by omega) (by omega)
  have lp22 : ∀ (m : Nat) (i : Int) (μ : am_N) , (∀ a b, a ≠ 99 → a ≠ 100 → a ≠ 104 → μ a b = ν a b) → 0 ≤ i → i ≤ am_shl 1 (2 * ν 83 14) → (∀ r : Nat, r < 4 → μ 104 r = fp_su (fun q => if fp_fi (am_TM ν) (ν 88) (ν 83 14) q = ((r : Nat) : Int) then 1 else 0) (i.toNat)) → sx_3 μ 100 → am_shl 1 (2 * ν 83 14) - i < (m : Int) → am_AW l 0 (fun _ => 0) 182 Q 22 [some (.inr (.inr 83)), some (.inl i)] [] μ := by
    intro m
    induction m with
    | zero =>
      intro i μ hv0 hv1 hv2 hv3 hv4 hm
      exfalso
      omega
    | succ m ih =>
      intro i μ hv0 hv1 hv2 hv3 hv4 hm
      have ci : am_c i = i := am_cR (by omega) (by omega)
      have e4 : μ 83 14 = ν 83 14 := hv0 83 14 (by decide) (by decide) (by decide)
      have e88 : μ 88 = ν 88 := funext (fun q => hv0 88 q (by decide) (by decide) (by decide))
      have eT : am_TM μ = am_TM ν := funext (fun q => by unfold am_TM; rw [hv0 83 10 (by decide) (by decide) (by decide), hv0 83 11 (by decide) (by decide) (by decide), hv0 87 q (by decide) (by decide) (by decide), hv0 86 q (by decide) (by decide) (by decide), hv0 85 q (by decide) (by decide) (by decide), hv0 89 q (by decide) (by decide) (by decide)])
      have h3 : am_fM μ := by unfold am_fM at hf ⊢; rw [e4, hv0 83 10 (by decide) (by decide) (by decide), hv0 83 11 (by decide) (by decide) (by decide)]; refine ⟨hf.1, hf.2.1, fun q hq => ?_⟩; rw [hv0 87 q (by decide) (by decide) (by decide), hv0 86 q (by decide) (by decide) (by decide), hv0 85 q (by decide) (by decide) (by decide), hv0 89 q (by decide) (by decide) (by decide)]; exact hf.2.2 q hq
      have fb := fp_fi_b (am_TM ν) (ν 88) (ν 83 14) i.toNat
      refine am_go (ct := fun pc => Nat.beq pc 22 || Nat.beq pc 2) am_oX7_findFirsts 300 ?_
      conv => whnf
      repeat' first
        | (refine (?_ : am_wp _ _ _ _ _ _ _ _ _ _ _ _); conv => whnf)
        | (refine (?_ : am_sw _ _ _ _); conv => whnf)
        | refine And.intro trivial ?_
        | exact trivial
        | refine n_races ?_
        | (have hi : i < am_shl 1 (2 * ν 83 14) := (by rw [e4] at *; rw [cA, ci] at *; omega); have n1 : 1 ≤ ν 83 14 := (by simp only [e4, cn, l0] at *; omega); refine x_takesParts _ h3 (fun q hq => by rw [e88]; exact hs q (by rw [e4] at hq; exact hq)) hv1 (by omega) (fun μ2 y1 y2 y3 y4 => ?_); have w0 : μ2 100 (am_c 0).toNat = fp_fi (am_TM ν) (ν 88) (ν 83 14) i.toNat := (by rw [show (am_c 0).toNat = 0 from rfl, fp_od_o (by rw [e4]; omega) y2 0 (by rw [e4]; omega), e4, eT, e88]; rfl))
        | refine k _ hv0 ?_ hv4
        | refine ih _ _ ?_ ?_ ?_ ?_ ?_ ?_
        | refine And.intro (fun h => absurd h (by decide)) (fun _ => ?_)
        | refine And.intro (fun _ => ?_) (fun h => absurd (by decide) h)
        | refine And.intro (fun _ => ?_) (fun _ => ?_)
        | refine And.intro ?_ ?_
      all_goals (first | decide | omega | (rw [w0]; rw [am_cR (by omega) (by omega)]; omega) | (intro a b q1 q2 q3; rw [am_upN q3, y1 a b q1 q2]; exact hv0 a b q1 q2 q3) | (exact sx_3N (y4 hv4) (by decide)) | (intro r hr; rw [show (i + 1).toNat = i.toNat + 1 by omega]; show _ = fp_su (fun q => if fp_fi (am_TM ν) (ν 88) (ν 83 14) q = ((r : Nat) : Int) then 1 else 0) (i.toNat) + (if fp_fi (am_TM ν) (ν 88) (ν 83 14) i.toNat = (r : Int) then 1 else 0); rw [w0, am_cR (z := fp_fi (am_TM ν) (ν 88) (ν 83 14) i.toNat) (by omega) (by omega)]; by_cases d : fp_fi (am_TM ν) (ν 88) (ν 83 14) i.toNat = (r : Int); (rw [am_upS, if_pos ⟨rfl, by omega⟩, if_pos d, y1 _ _ (by decide) (by decide), show (fp_fi (am_TM ν) (ν 88) (ν 83 14) i.toNat).toNat = r by omega, hv3 r hr]); (rw [am_upM (by omega), if_neg d, y1 _ _ (by decide) (by decide), hv3 r hr, Int.add_zero])) | (intro n1 r hr; rw [hv3 r hr, show i.toNat = 4 ^ (ν 83 14).toNat by simp only [e4, cn, l0, ci, cA] at *; omega]) | (trace_state; fail))
  have lp22' : ∀ (i : Int) (μ : am_N) , (∀ a b, a ≠ 99 → a ≠ 100 → a ≠ 104 → μ a b = ν a b) → 0 ≤ i → i ≤ am_shl 1 (2 * ν 83 14) → (∀ r : Nat, r < 4 → μ 104 r = fp_su (fun q => if fp_fi (am_TM ν) (ν 88) (ν 83 14) q = ((r : Nat) : Int) then 1 else 0) (i.toNat)) → sx_3 μ 100 → am_AW l 0 (fun _ => 0) 182 Q 22 [some (.inr (.inr 83)), some (.inl i)] [] μ := fun i μ hv0 hv1 hv2 hv3 hv4 => lp22 ((am_shl 1 (2 * ν 83 14) - i) + 1).toNat i μ hv0 hv1 hv2 hv3 hv4 (by omega)
  have lp2 : ∀ (m : Nat) (i : Int) (μ : am_N) , (∀ a b, a ≠ 99 → a ≠ 100 → a ≠ 104 → μ a b = ν a b) → 0 ≤ i → i ≤ 4 → (∀ r : Nat, (r : Int) < i → μ 104 r = 0) → sx_3 μ 100 → 4 - i < (m : Int) → am_AW l 0 (fun _ => 0) 182 Q 2 [some (.inr (.inr 83)), some (.inl i)] [] μ := by
    intro m
    induction m with
    | zero =>
      intro i μ hv0 hv1 hv2 hv3 hv4 hm
      exfalso
      omega
    | succ m ih =>
      intro i μ hv0 hv1 hv2 hv3 hv4 hm
      have ci : am_c i = i := am_cR (by omega) (by omega)
      refine am_go (ct := fun pc => Nat.beq pc 22 || Nat.beq pc 2) am_oX7_findFirsts 300 ?_
      conv => whnf
      repeat' first
        | (refine (?_ : am_wp _ _ _ _ _ _ _ _ _ _ _ _); conv => whnf)
        | (refine (?_ : am_sw _ _ _ _); conv => whnf)
        | refine And.intro trivial ?_
        | exact trivial
        | refine lp22' 0 _ ?_ ?_ ?_ ?_ ?_
        | refine ih _ _ ?_ ?_ ?_ ?_ ?_ ?_
        | refine lp22' _ _ ?_ ?_ ?_ ?_ ?_
        | refine And.intro (fun h => absurd h (by decide)) (fun _ => ?_)
        | refine And.intro (fun _ => ?_) (fun h => absurd (by decide) h)
        | refine And.intro (fun _ => ?_) (fun _ => ?_)
        | refine And.intro ?_ ?_
      all_goals (first | decide | assumption | omega | (rw [ci, l4] at *; omega) | (rw [ci]; omega) | (intro a b q1 q2 q3; rw [am_upN q3]; exact hv0 a b q1 q2 q3) | exact sx_3N hv4 (by decide) | (intro r hr; by_cases d : (r : Int) = i; (rw [am_upS, if_pos ⟨rfl, by rw [ci]; omega⟩]); (rw [am_upM (by rw [ci]; omega)]; exact hv3 r (by omega))) | (intro r hr; rw [hv3 r (by rw [ci, l4] at *; omega)]; rfl) | (trace_state; fail))
  have lp2' : ∀ (i : Int) (μ : am_N) , (∀ a b, a ≠ 99 → a ≠ 100 → a ≠ 104 → μ a b = ν a b) → 0 ≤ i → i ≤ 4 → (∀ r : Nat, (r : Int) < i → μ 104 r = 0) → sx_3 μ 100 → am_AW l 0 (fun _ => 0) 182 Q 2 [some (.inr (.inr 83)), some (.inl i)] [] μ := fun i μ hv0 hv1 hv2 hv3 hv4 => lp2 ((4 - i) + 1).toNat i μ hv0 hv1 hv2 hv3 hv4 (by omega)
  refine am_go (ct := fun pc => Nat.beq pc 22 || Nat.beq pc 2) am_oX7_findFirsts 300 ?_
  conv => whnf
  repeat' first
    | (refine (?_ : am_wp _ _ _ _ _ _ _ _ _ _ _ _); conv => whnf)
    | (refine (?_ : am_sw _ _ _ _); conv => whnf)
    | refine And.intro trivial ?_
    | exact trivial
    | refine lp2' _ _ ?_ ?_ ?_ ?_ ?_
    | refine lp22' _ _ ?_ ?_ ?_ ?_ ?_
    | refine And.intro (fun h => absurd h (by decide)) (fun _ => ?_)
    | refine And.intro (fun _ => ?_) (fun h => absurd (by decide) h)
    | refine And.intro (fun _ => ?_) (fun _ => ?_)
    | refine And.intro ?_ ?_
  all_goals (first | decide | assumption | omega | rfl | (intros; rfl) | (intros; omega) | (trace_state; fail))
/-- firsts of a picture -/
theorem fp_lw_M {μ : am_N} {r : Nat} (hw : fp_fw 999 (mv μ)) (hr : (r : Int) < μ 83 14) : fp_su (fun q => if fp_fi (am_TM μ) (μ 88) (μ 83 14) q = (r : Int) then 1 else 0) (4 ^ (μ 83 14).toNat) = fp_lw (mv μ) r := by
  obtain ⟨hf, -, -, -, -, -, hx⟩ := fw_M hw (by decide)
  have n4 := hf.1
  have hz : ∃ n : Nat, μ 83 14 = (n : Int) := ⟨(μ 83 14).toNat, (Int.toNat_of_nonneg n4.1).symm⟩
  obtain ⟨n, hn⟩ := hz
  have e : ∀ k, fp_fi (am_TM μ) (μ 88) (n : Int) k = fp_fi (fun j => if j < n then am_TM μ j else 1) (fun j => if j < n then μ 88 j else 0) (n : Int) k := fun k => by
    have c : ∀ i : Nat, i < n → ∀ m : Nat, m ≤ n → am_cnt (fun j => fp_pt (am_TM μ j) (μ 88 j) (fp_dj k j)) i m = am_cnt (fun j => fp_pt (if j < n then am_TM μ j else 1) (if j < n then μ 88 j else 0) (fp_dj k j)) i m := fun i hi => am_cnt_t (n := n) hi (fun j hj => by show fp_pt _ _ _ = fp_pt _ _ _; rw [if_pos hj, if_pos hj])
    obtain ⟨i, hi, hc⟩ := am_cnt_s (fun j => fp_pt (am_TM μ j) (μ 88 j) (fp_dj k j)) (m := n) (by omega) 0 (by omega)
    have y1 : fp_fi (am_TM μ) (μ 88) (n : Int) k = (i : Int) := fp_od_i (by omega) (by omega) (by rw [Int.toNat_natCast]; exact hc)
    have y2 : fp_fi (fun j => if j < n then am_TM μ j else 1) (fun j => if j < n then μ 88 j else 0) (n : Int) k = (i : Int) := fp_od_i (by omega) (by omega) (by rw [Int.toNat_natCast, ← c i hi n (Nat.le_refl _)]; exact hc)
    rw [y1, y2]
  rw [hn, Int.toNat_natCast]
  rw [fp_su_e _ (fun k _ => by show (if fp_fi (am_TM μ) (μ 88) (n : Int) k = (r : Int) then (1 : Int) else 0) = _; rw [e k])]
  rw [fp_lk (fun j hj => by show 1 ≤ (if j < n then am_TM μ j else 1); split; exact (am_TM_b hf (by omega)).1; decide) (fun j hj => by show 0 ≤ (if j < n then μ 88 j else 0); split; exact (hx j (by omega)).2.2.2.1; decide) (by omega) (by omega)]
  unfold fp_lw
  rw [mv_n, hn, Int.toNat_natCast]
  refine fp_wy_e (by omega) (fun j hj => ?_)
  have t : am_TM μ j = fp_tf (mv μ) j := mv_T (by omega)
  have s : mv μ 4 j = μ 88 j := mv_a (a := 3) (by decide) (by omega)
  show fp_pt (if j < n then am_TM μ j else 1) (if j < n then μ 88 j else 0) 0 = _ ∧ (if j < n then am_TM μ j else 1) = _ ∧ (if j < n then am_TM μ j else 1) + (if j < n then μ 88 j else 0) = _
  rw [if_pos hj, if_pos hj, t, s]
  exact ⟨rfl, rfl, rfl⟩
theorem n_findFirsts {l : Launch} {ν : am_N} {Q : Option am_V → am_N → Prop} (hm : mi ν) (hw : fp_fw 999 (mv ν)) (k : ∀ μ' : am_N, gm ms ν μ' → (∀ a b, a ≠ 99 → a ≠ 100 → a ≠ 104 → μ' a b = ν a b) → (∀ r : Nat, (r : Int) < ν 83 14 → μ' 104 r = fp_lw (mv ν) r) → Q none μ') : am_Does l 182 [.inr (.inr 83)] ν Q := by
  obtain ⟨hf, -, -, -, -, -, hx⟩ := fw_M hw (by decide)
  refine x_findFirsts hf (fun q hq => (hx q hq).2.2.2) (fun p hp => mi_or hm p hp) (fun μ2 f2 v2 p2 => k μ2 ⟨mi_rc hm (fun a b q => f2 a b (by omega) (by omega) (by omega)) p2, fun a b ha => f2 a b (fun z => by rw [z] at ha; cases ha) (fun z => by rw [z] at ha; cases ha) (fun z => by rw [z] at ha; cases ha)⟩ f2 (fun r hr => ?_))
  have n4 := hf.1
  rw [v2 (by omega) r (by omega)]
  exact fp_lw_M hw hr
theorem fp_lw_C1 {ν μ : am_N} {i : Nat} (n4 : ν 1 4 ≤ 4) (hi : (i : Int) < ν 1 4) (d0 : μ 29 0 = ν 1 4) (dr : ∀ q : Nat, (q : Int) < ν 1 4 → μ 30 q = fp_pt (am_TC ν 1 q) (ν 5 q) 0 ∧ μ 31 q = am_TC ν 1 q ∧ μ 32 q = am_TC ν 1 q + ν 5 q) : fp_wy (μ 30) (μ 31) (μ 32) (μ 29 0).toNat i = fp_lw (fv ν 1) i := by
  unfold fp_lw
  rw [d0, fv_0 (by decide)]
  refine fp_wy_e (by omega) (fun j hj => ?_)
  obtain ⟨q0, q1, q2⟩ := dr j (by omega)
  have t : am_TC ν 1 j = fp_tf (fv ν 1) j := fv_T (by omega)
  have s : fv ν 1 4 j = ν 5 j := fv_a (by decide) (by decide) (by omega)
  rw [q0, q1, q2, t, s]
  exact ⟨rfl, rfl, rfl⟩
theorem x_draw_1 {l : Launch} {ν : am_N} {Q : Option am_V → am_N → Prop} (hf : am_fC ν 1) (hs : ∀ q : Nat, (q : Int) < ν 1 4 → 0 ≤ ν 5 q ∧ ν 5 q ≤ 20) (k : ∀ μ' : am_N, (∀ a b, ¬(30 ≤ a ∧ a ≤ 32) → ¬(a = 29 ∧ b = 0) → μ' a b = ν a b) → μ' 29 0 = ν 1 4 → (∀ q : Nat, (q : Int) < ν 1 4 → μ' 30 q = fp_pt (am_TC ν 1 q) (ν 5 q) 0 ∧ μ' 31 q = am_TC ν 1 q ∧ μ' 32 q = am_TC ν 1 q + ν 5 q) → Q none μ') : am_Does l 21 [.inr (.inr 29), .inr (.inr 1)] ν Q := by
  refine am_Does_of (Nat.le_of_ble_eq_true rfl) (Nat.le_of_ble_eq_true rfl) (Nat.le_of_ble_eq_true rfl) ?_
  have l0 : am_c 0 = 0 := rfl
  have l1 : am_c 1 = 1 := rfl
  have l2 : am_c 2 = 2 := rfl
  have l3 : am_c 3 = 3 := rfl
  have l4 : am_c 4 = 4 := rfl
  have l16 : am_c 16 = 16 := rfl
  have hn := hf.1
  have hq := @am_TC_b ν 1
  have lp10 : ∀ (m : Nat) (i : Int) (μ : am_N) , (∀ a b, ¬(30 ≤ a ∧ a ≤ 32) → ¬(a = 29 ∧ b = 0) → μ a b = ν a b) → μ 29 0 = ν 1 4 → 0 ≤ i → i ≤ ν 1 4 → (∀ q : Nat, (q : Int) < i → μ 30 q = fp_pt (am_TC ν 1 q) (ν 5 q) 0 ∧ μ 31 q = am_TC ν 1 q ∧ μ 32 q = am_TC ν 1 q + ν 5 q) → ν 1 4 - i < (m : Int) → am_AW l 0 (fun _ => 0) 21 Q 10 [some (.inr (.inr 29)), some (.inr (.inr 1)), some (.inl i)] [] μ := by
    intro m
    induction m with
    | zero =>
      intro i μ hv0 hv1 hv2 hv3 hv4 hm
      exfalso
      omega
    | succ m ih =>
      intro i μ hv0 hv1 hv2 hv3 hv4 hm
      have ci : am_c i = i := am_cR (by omega) (by omega)
      have cn : am_c (ν 1 4) = ν 1 4 := am_cR (by omega) (by omega)
      obtain ⟨g1, g2⟩ := am_fC_ch (c := 1) (fun a b q1 q2 => hv0 a b (by omega) (by omega))
      have g3 := g1 hf
      have e4 : μ 1 4 = ν 1 4 := hv0 1 4 (by decide) (by decide)
      have eS : μ 5 i.toNat = ν 5 i.toNat := hv0 5 _ (by omega) (by omega)
      have gT := g2 i.toNat
      have eI : (am_c i).toNat = i.toNat := by rw [ci]
      refine am_go (ct := fun pc => Nat.beq pc 10) am_oX2_draw 300 ?_
      conv => whnf
      repeat' first
        | (refine (?_ : am_wp _ _ _ _ _ _ _ _ _ _ _ _); conv => whnf)
        | (refine (?_ : am_sw _ _ _ _); conv => whnf)
        | refine And.intro trivial ?_
        | exact trivial
        | exact g3
        | refine x_tenths_1 _ ?_ ?_ ?_ ?_
        | (refine x_put _ _ _ ?_ ?_ ?_ ?_ ?_ ?_ (fun μ2 y1 y2 y3 y4 => ?_))
        | refine k _ ?_ ?_ ?_
        | refine ih _ _ ?_ ?_ ?_ ?_ ?_ ?_
        | refine And.intro (fun h => absurd h (by decide)) (fun _ => ?_)
        | refine And.intro (fun _ => ?_) (fun h => absurd (by decide) h)
        | refine And.intro (fun _ => ?_) (fun _ => ?_)
        | refine And.intro ?_ ?_
      all_goals (first | decide | assumption | omega | (simp only [hv1, ci, cn, e4] at *; omega) | (have hi : i < ν 1 4 := (by simp only [hv1, ci, cn, e4] at *; omega); have z1 := @hq i.toNat hf (by omega); have z2 := hs i.toNat (by omega); simp only [eI, eS, gT]; omega) | (intro a b h1 h2; rw [y1 a b (by omega)]; exact hv0 a b h1 h2) | (rw [y1 29 0 (by omega)]; exact hv1) | (intro q hq; by_cases d : (q : Int) = i; (rw [show q = i.toNat by omega, y2, y3, y4]; refine ⟨?_, ?_, ?_⟩ <;> simp only [eI, eS, gT]); (rw [y1 30 q (by omega), y1 31 q (by omega), y1 32 q (by omega)]; exact hv4 q (by omega))) | (intro q hq; exact hv4 q (by simp only [hv1, ci, cn, e4] at *; omega)) | (trace_state; fail))
  have lp10' : ∀ (i : Int) (μ : am_N) , (∀ a b, ¬(30 ≤ a ∧ a ≤ 32) → ¬(a = 29 ∧ b = 0) → μ a b = ν a b) → μ 29 0 = ν 1 4 → 0 ≤ i → i ≤ ν 1 4 → (∀ q : Nat, (q : Int) < i → μ 30 q = fp_pt (am_TC ν 1 q) (ν 5 q) 0 ∧ μ 31 q = am_TC ν 1 q ∧ μ 32 q = am_TC ν 1 q + ν 5 q) → am_AW l 0 (fun _ => 0) 21 Q 10 [some (.inr (.inr 29)), some (.inr (.inr 1)), some (.inl i)] [] μ := fun i μ hv0 hv1 hv2 hv3 hv4 => lp10 ((ν 1 4 - i) + 1).toNat i μ hv0 hv1 hv2 hv3 hv4 (by omega)
  refine am_go (ct := fun pc => Nat.beq pc 10) am_oX2_draw 300 ?_
  conv => whnf
  repeat' first
    | (refine (?_ : am_wp _ _ _ _ _ _ _ _ _ _ _ _); conv => whnf)
    | (refine (?_ : am_sw _ _ _ _); conv => whnf)
    | refine And.intro trivial ?_
    | exact trivial
    | refine lp10' _ _ ?_ ?_ ?_ ?_ ?_
    | refine And.intro (fun h => absurd h (by decide)) (fun _ => ?_)
    | refine And.intro (fun _ => ?_) (fun h => absurd (by decide) h)
    | refine And.intro (fun _ => ?_) (fun _ => ?_)
    | refine And.intro ?_ ?_
  all_goals (first | decide | assumption | omega | rfl | (intro a b h1 h2; rw [am_upS, if_neg h2]) | (exact if_pos ⟨rfl, rfl⟩) | (intros; omega) | (trace_state; fail))
theorem s_allWays {l : Launch} {ν : am_N} {Q : Option am_V → am_N → Prop} (k : Q (some (.inl (am_shl 1 (2 * ν 29 0)))) ν) : am_Does l 23 [.inr (.inr 29)] ν Q := by
  refine am_Does_of (Nat.le_of_ble_eq_true rfl) (Nat.le_of_ble_eq_true rfl) (Nat.le_of_ble_eq_true rfl) ?_
  refine am_go (ct := fun _ => false) am_oX2_allWays 300 ?_
  conv => whnf
  repeat' first
    | (refine (?_ : am_wp _ _ _ _ _ _ _ _ _ _ _ _); conv => whnf)
    | (refine (?_ : am_sw _ _ _ _); conv => whnf)
    | refine And.intro trivial ?_
    | exact trivial
    | exact k
    | refine And.intro (fun h => absurd h (by decide)) (fun _ => ?_)
    | refine And.intro (fun _ => ?_) (fun h => absurd (by decide) h)
    | refine And.intro (fun _ => ?_) (fun _ => ?_)
    | refine And.intro ?_ ?_
  all_goals (first | decide | (trace_state; fail))
/-- who is sure to be first, never -/
def fp_sb2 (F : am_N) (x : Int) : Nat → Int
  | 0 => 0
  | i + 1 => if fp_lw F i = x then am_or (fp_sb2 F x i) (am_shl 1 i) else fp_sb2 F x i
theorem fp_sb2_b (F : am_N) (x : Int) : ∀ i : Nat, i ≤ 4 → 0 ≤ fp_sb2 F x i ∧ fp_sb2 F x i ≤ 15 := by
  intro i
  induction i with
  | zero => intro _; exact ⟨(by first | exact Int.le_refl 0 | (show (0 : Int) ≤ 1; decide) | (show (0 : Int) ≤ _; decide) | (show _ ≤ (0 : Int); decide) | (show (1 : Int) ≤ _; decide) | (show (0 : Int) < _; decide)), (by first | exact Int.le_refl 0 | (show (0 : Int) ≤ 1; decide) | (show (0 : Int) ≤ _; decide) | (show _ ≤ (0 : Int); decide) | (show (1 : Int) ≤ _; decide) | (show (0 : Int) < _; decide))⟩
  | succ i ih =>
    intro hi
    have q := ih (by omega)
    simp only [fp_sb2]
    split
    · exact fp_or1 q.1 q.2 (by omega) (by omega)
    · exact q
def fp_sur (F : am_N) (w : Int) : Int := if ¬(w = 0 ∨ w = 1) then -2 else fp_sb2 F (if w = 0 then fp_al2 F else 0) (F 0 4).toNat
theorem sx_dr {ν μ : am_N} (hS : sx ν ν) (f : ∀ a b, ¬(30 ≤ a ∧ a ≤ 32) → ¬(a = 29 ∧ b = 0) → a ≠ 78 → μ a b = ν a b) (h29 : 0 ≤ μ 29 0 ∧ μ 29 0 ≤ 4) : sx ν μ := sx_ad hS (fun a b _ q2 q3 q4 => f a b q2 q3 q4) (by rw [f 15 4 (by omega) (by omega) (by omega)]; exact hS.2.2.2.1.2.1) h29
theorem s_sure {l : Launch} {ν : am_N} {Q : Option am_V → am_N → Prop} (w : Int) (cw : am_c w = w) (hS : sx ν ν) (hw : fp_fw 999 (fv ν 1)) (k : ∀ μ' : am_N, sx ν μ' → Q (some (.inl (fp_sur (fv ν 1) w))) μ') : am_Does l 72 [.inr (.inr 0), .inl w] ν Q := by
  refine am_Does_of (Nat.le_of_ble_eq_true rfl) (Nat.le_of_ble_eq_true rfl) (Nat.le_of_ble_eq_true rfl) ?_
  have l0 : am_c 0 = 0 := rfl
  have l1 : am_c 1 = 1 := rfl
  have l2 : am_c 2 = 2 := rfl
  have l3 : am_c 3 = 3 := rfl
  have l4 : am_c 4 = 4 := rfl
  have l20 : am_c 20 = 20 := rfl
  have l200 : am_c 200 = 200 := rfl
  have m1' : am_c (-1) = -1 := rfl
  have m2' : am_c (-2) = -2 := rfl
  have m9' : am_c (-9) = -9 := rfl
  obtain ⟨hf, -, -, -, -, -, hx⟩ := fw_C hw (by decide)
  have f0 := hf.1.1
  have f1 := hf.1.2
  have e4 : fv ν 1 0 4 = ν 1 4 := fv_0 (by decide)
  have cn : am_c (ν 1 4) = ν 1 4 := am_cR (by omega) (by omega)
  have al := fp_al2_b f0 f1
  have kk := fun (x : Int) (μ' : am_N) (h : sx ν μ') (e : x = fp_sur (fv ν 1) w) => am_qe (k μ' h) e
  have hs : ∀ q : Nat, (q : Int) < ν 1 4 → 0 ≤ ν 5 q ∧ ν 5 q ≤ 20 := fun q hq => (hx q hq).2.2.2
  have ea : fp_al2 (fv ν 1) = am_shl 1 (2 * ν 1 4) := by unfold fp_al2; rw [e4]
  have lp46 : ∀ (m : Nat) (y x i : Int) (μ : am_N) , (∀ a b, ¬(30 ≤ a ∧ a ≤ 32) → ¬(a = 29 ∧ b = 0) → μ a b = ν a b) → μ 29 0 = ν 1 4 → (∀ q : Nat, (q : Int) < ν 1 4 → μ 30 q = fp_pt (am_TC ν 1 q) (ν 5 q) 0 ∧ μ 31 q = am_TC ν 1 q ∧ μ 32 q = am_TC ν 1 q + ν 5 q) → 0 ≤ i → i ≤ ν 1 4 → x = fp_sb2 (fv ν 1) y i.toNat → y = (if w = 0 then fp_al2 (fv ν 1) else 0) → (w = 0 ∨ w = 1) → ν 1 4 - i < (m : Int) → am_AW l 0 (fun _ => 0) 72 Q 46 [some (.inr (.inr 0)), some (.inl w), some (.inl y), some (.inl x), some (.inl i)] [] μ := by
    intro m
    induction m with
    | zero =>
      intro y x i μ hv0 hv1 hv2 hv3 hv4 hv5 hv6 hv7 hm
      exfalso
      omega
    | succ m ih =>
      intro y x i μ hv0 hv1 hv2 hv3 hv4 hv5 hv6 hv7 hm
      have ci : am_c i = i := am_cR (by omega) (by omega)
      have e14 : μ 1 4 = ν 1 4 := hv0 1 4 (by omega) (by omega)
      have sE : sx ν μ := sx_dr hS (fun a b q2 q3 _ => hv0 a b q2 q3) (by rw [hv1]; exact ⟨f0, f1⟩)
      have hb := fp_rw_b (c := 1) hf hs hv1 hv2
      have lw := fp_lw_b (F := (fv ν 1)) (by rw [e4]; exact f1) i.toNat
      have yb : 0 ≤ y ∧ y ≤ 256 := by rw [hv6, ea]; split <;> omega
      have cy : am_c y = y := am_cR (by omega) (by omega)
      have cl : am_c (fp_lw (fv ν 1) i.toNat) = fp_lw (fv ν 1) i.toNat := am_cR (by omega) (by omega)
      refine am_go (ct := fun pc => Nat.beq pc 46) am_oX6_sure 300 ?_
      conv => whnf
      repeat' first
        | (refine (?_ : am_wp _ _ _ _ _ _ _ _ _ _ _ _); conv => whnf)
        | (refine (?_ : am_sw _ _ _ _); conv => whnf)
        | refine And.intro trivial ?_
        | exact trivial
        | (have hi : i < ν 1 4 := (by rw [ci, e14, cn] at *; omega); refine x_ways i hv3 (by rw [hv1]; exact hi) (by rw [hv1]; exact f1) hb ?_; rw [fp_lw_C1 f1 (by omega) hv1 hv2])
        | refine kk _ _ sE ?_
        | refine x_noPart _ cw (fun z => ?_) (fun z => ?_)
        | refine x_refuse _ ?_ (fun μr fr => ?_)
        | refine x_draw_1 hf hs (fun μ1 g1 d0 dr => ?_)
        | refine s_allWays ?_
        | refine kk _ _ (sx_78 hS fr) ?_
        | refine ih _ _ _ _ ?_ ?_ ?_ ?_ ?_ ?_ ?_ ?_ ?_
        | refine And.intro (fun h => absurd h (by decide)) (fun _ => ?_)
        | refine And.intro (fun _ => ?_) (fun h => absurd (by decide) h)
        | refine And.intro (fun _ => ?_) (fun _ => ?_)
        | refine And.intro ?_ ?_
      all_goals (first | decide | assumption | omega | (rw [show (i + 1).toNat = i.toNat + 1 by omega]; simp only [fp_sb2]; have ei : ((i.toNat : Nat) : Int) = i := Int.toNat_of_nonneg hv3; rw [hv5, ei]; first | (rw [if_pos (by simp only [cl, cy] at *; omega)]) | (rw [if_neg (by simp only [cl, cy] at *; omega)])) | (unfold fp_sur; rw [e4, if_neg (by omega), hv5, hv6, show i.toNat = (ν 1 4).toNat by rw [ci, e14, cn] at *; omega]) | (trace_state; fail))
  have lp46' : ∀ (y x i : Int) (μ : am_N) , (∀ a b, ¬(30 ≤ a ∧ a ≤ 32) → ¬(a = 29 ∧ b = 0) → μ a b = ν a b) → μ 29 0 = ν 1 4 → (∀ q : Nat, (q : Int) < ν 1 4 → μ 30 q = fp_pt (am_TC ν 1 q) (ν 5 q) 0 ∧ μ 31 q = am_TC ν 1 q ∧ μ 32 q = am_TC ν 1 q + ν 5 q) → 0 ≤ i → i ≤ ν 1 4 → x = fp_sb2 (fv ν 1) y i.toNat → y = (if w = 0 then fp_al2 (fv ν 1) else 0) → (w = 0 ∨ w = 1) → am_AW l 0 (fun _ => 0) 72 Q 46 [some (.inr (.inr 0)), some (.inl w), some (.inl y), some (.inl x), some (.inl i)] [] μ := fun y x i μ hv0 hv1 hv2 hv3 hv4 hv5 hv6 hv7 => lp46 ((ν 1 4 - i) + 1).toNat y x i μ hv0 hv1 hv2 hv3 hv4 hv5 hv6 hv7 (by omega)
  refine am_go (ct := fun pc => Nat.beq pc 46) am_oX6_sure 300 ?_
  conv => whnf
  repeat' first
    | (refine (?_ : am_wp _ _ _ _ _ _ _ _ _ _ _ _); conv => whnf)
    | (refine (?_ : am_sw _ _ _ _); conv => whnf)
    | refine And.intro trivial ?_
    | exact trivial
    | refine x_noPart _ cw (fun z => ?_) (fun z => ?_)
    | refine x_refuse _ ?_ (fun μr fr => ?_)
    | refine x_draw_1 hf hs (fun μ1 g1 d0 dr => ?_)
    | refine s_allWays ?_
    | refine kk _ _ (sx_78 hS fr) ?_
    | refine lp46' _ _ _ _ ?_ ?_ ?_ ?_ ?_ ?_ ?_ ?_
    | refine And.intro (fun h => absurd h (by decide)) (fun _ => ?_)
    | refine And.intro (fun _ => ?_) (fun h => absurd (by decide) h)
    | refine And.intro (fun _ => ?_) (fun _ => ?_)
    | refine And.intro ?_ ?_
  all_goals (first | decide | assumption | omega | rfl | (intro a b q1 q2; exact g1 a b q1 q2) | (rw [d0, ea, if_pos (by simp only [cw, l0] at *; omega)]) | (rw [if_neg (by simp only [cw, l0] at *; omega)]) | (unfold fp_sur; rw [if_pos (by omega)]) | (trace_state; fail))
theorem n_sure {l : Launch} {ν : am_N} {Q : Option am_V → am_N → Prop} (w : Int) (cw : am_c w = w) (hm : mi ν) (hw : fp_fw 999 (mv ν)) (k : ∀ μ' : am_N, gm ms ν μ' → Q (some (.inl (fp_sur (mv ν) w))) μ') : am_Does l 191 [.inr (.inr 83), .inl w] ν Q := by
  refine am_Does_of (Nat.le_of_ble_eq_true rfl) (Nat.le_of_ble_eq_true rfl) (Nat.le_of_ble_eq_true rfl) ?_
  have l0 : am_c 0 = 0 := rfl
  have l1 : am_c 1 = 1 := rfl
  have l2 : am_c 2 = 2 := rfl
  have l3 : am_c 3 = 3 := rfl
  have l4 : am_c 4 = 4 := rfl
  have l20 : am_c 20 = 20 := rfl
  have l200 : am_c 200 = 200 := rfl
  have m1' : am_c (-1) = -1 := rfl
  have m2' : am_c (-2) = -2 := rfl
  have m9' : am_c (-9) = -9 := rfl
  obtain ⟨hf, -, -, -, -, -, hx⟩ := fw_M hw (by decide)
  have f0 := hf.1.1
  have f1 := hf.1.2
  have e4 : mv ν 0 4 = ν 83 14 := rfl
  have cn : am_c (ν 83 14) = ν 83 14 := am_cR (by omega) (by omega)
  have al := fp_al2_b f0 f1
  have kk := fun (x : Int) (μ' : am_N) (h : gm ms ν μ') (e : x = fp_sur (mv ν) w) => am_qe (k μ' h) e
  have ea : fp_al2 (mv ν) = am_shl 1 (2 * ν 83 14) := rfl
  have lp24 : ∀ (m : Nat) (x i : Int) (μ : am_N) , gm ms ν μ → (∀ r : Nat, (r : Int) < ν 83 14 → μ 104 r = fp_lw (mv ν) r) → 0 ≤ i → i ≤ ν 83 14 → x = fp_sb2 (mv ν) (if w = 0 then fp_al2 (mv ν) else 0) i.toNat → (w = 0 ∨ w = 1) → ν 83 14 - i < (m : Int) → am_AW l 0 (fun _ => 0) 191 Q 24 [some (.inr (.inr 83)), some (.inl w), some (.inl x), some (.inl i)] [] μ := by
    intro m
    induction m with
    | zero =>
      intro x i μ hv0 hv1 hv2 hv3 hv4 hv5 hm
      exfalso
      omega
    | succ m ih =>
      intro x i μ hv0 hv1 hv2 hv3 hv4 hv5 hm
      have ci : am_c i = i := am_cR (by omega) (by omega)
      have e14 : μ 83 14 = ν 83 14 := hv0.2 83 14 rfl
      have lw := fp_lw_b (F := (mv ν)) f1 i.toNat
      have cA : am_c (am_shl 1 (2 * ν 83 14)) = am_shl 1 (2 * ν 83 14) := am_cR (by omega) (by omega)
      have cl : am_c (fp_lw (mv ν) i.toNat) = fp_lw (mv ν) i.toNat := am_cR (by omega) (by omega)
      have sb := fp_sb2_b (mv ν) (if w = 0 then fp_al2 (mv ν) else 0) i.toNat (by omega)
      have ei : ((i.toNat : Nat) : Int) = i := Int.toNat_of_nonneg hv2
      have fi := fun q : i < ν 83 14 => hv1 i.toNat (by omega)
      refine am_go (ct := fun pc => Nat.beq pc 24) am_oX7_sure 300 ?_
      conv => whnf
      repeat' first
        | (refine (?_ : am_wp _ _ _ _ _ _ _ _ _ _ _ _); conv => whnf)
        | (refine (?_ : am_sw _ _ _ _); conv => whnf)
        | refine And.intro trivial ?_
        | exact trivial
        | exact hv0
        | refine n_races ?_
        | refine kk _ _ hv0 ?_
        | exact h1
        | refine x_isIn w _ _ _ rfl cw ?_ ?_ (fun _ _ => ?_) (fun _ => ?_)
        | refine x_no _ ?_ (fun μr fr => ?_)
        | refine n_findFirsts hm hw (fun μ1 h1 g1 v1 => ?_)
        | refine kk _ _ (mi_84 hm fr) ?_
        | refine And.intro (fun h => absurd h (by omega)) (fun _ => ?_)
        | refine And.intro (fun _ => ?_) (fun h => absurd h (by omega))
        | refine ih _ _ _ ?_ ?_ ?_ ?_ ?_ ?_ ?_
        | refine And.intro (fun h => absurd h (by decide)) (fun _ => ?_)
        | refine And.intro (fun _ => ?_) (fun h => absurd (by decide) h)
        | refine And.intro (fun _ => ?_) (fun _ => ?_)
        | refine And.intro ?_ ?_
      all_goals (first | decide | assumption | omega | (rw [ci]; rw [ci, e14, cn] at *; omega) | (simp only [ci, e14, cn] at *; omega) | (have hi : i < ν 83 14 := (by simp only [ci, e14, cn] at *; omega); have fi := fi hi; rw [show (i + 1).toNat = i.toNat + 1 by omega]; simp only [fp_sb2]; rw [hv4, ei]; rcases hv5 with wz | wz; (first | (exfalso; simp only [cw, l0] at *; omega) | (rw [if_pos wz] at sb ⊢; first | (rw [if_pos (show fp_lw (mv ν) i.toNat = fp_al2 (mv ν) by first | (rw [ea]; simp only [ci, e14, fi, cl, cA, l0] at *; omega) | (simp only [ci, e14, fi, cl, cA, l0] at *; omega))]) | (rw [if_neg (show ¬ fp_lw (mv ν) i.toNat = fp_al2 (mv ν) by first | (rw [ea]; simp only [ci, e14, fi, cl, cA, l0] at *; omega) | (simp only [ci, e14, fi, cl, cA, l0] at *; omega))]; exact fp_or0 sb.1 sb.2))); (first | (exfalso; simp only [cw, l0] at *; omega) | (rw [if_neg (show ¬ w = 0 by omega)] at sb ⊢; first | (rw [if_pos (show fp_lw (mv ν) i.toNat = 0 by first | (rw [ea]; simp only [ci, e14, fi, cl, cA, l0] at *; omega) | (simp only [ci, e14, fi, cl, cA, l0] at *; omega))]) | (rw [if_neg (show ¬ fp_lw (mv ν) i.toNat = 0 by first | (rw [ea]; simp only [ci, e14, fi, cl, cA, l0] at *; omega) | (simp only [ci, e14, fi, cl, cA, l0] at *; omega))]; exact fp_or0 sb.1 sb.2)))) | (unfold fp_sur; rw [e4, if_neg (by omega), hv4, show i.toNat = (ν 83 14).toNat by rw [ci, e14, cn] at *; omega]) | (trace_state; fail))
  have lp24' : ∀ (x i : Int) (μ : am_N) , gm ms ν μ → (∀ r : Nat, (r : Int) < ν 83 14 → μ 104 r = fp_lw (mv ν) r) → 0 ≤ i → i ≤ ν 83 14 → x = fp_sb2 (mv ν) (if w = 0 then fp_al2 (mv ν) else 0) i.toNat → (w = 0 ∨ w = 1) → am_AW l 0 (fun _ => 0) 191 Q 24 [some (.inr (.inr 83)), some (.inl w), some (.inl x), some (.inl i)] [] μ := fun x i μ hv0 hv1 hv2 hv3 hv4 hv5 => lp24 ((ν 83 14 - i) + 1).toNat x i μ hv0 hv1 hv2 hv3 hv4 hv5 (by omega)
  refine am_go (ct := fun pc => Nat.beq pc 24) am_oX7_sure 300 ?_
  conv => whnf
  repeat' first
    | (refine (?_ : am_wp _ _ _ _ _ _ _ _ _ _ _ _); conv => whnf)
    | (refine (?_ : am_sw _ _ _ _); conv => whnf)
    | refine And.intro trivial ?_
    | exact trivial
    | exact h1
    | refine x_isIn w _ _ _ rfl cw ?_ ?_ (fun _ _ => ?_) (fun _ => ?_)
    | refine x_no _ ?_ (fun μr fr => ?_)
    | refine n_findFirsts hm hw (fun μ1 h1 g1 v1 => ?_)
    | refine kk _ _ (mi_84 hm fr) ?_
    | refine And.intro (fun h => absurd h (by omega)) (fun _ => ?_)
    | refine And.intro (fun _ => ?_) (fun h => absurd h (by omega))
    | refine lp24' _ _ _ ?_ ?_ ?_ ?_ ?_ ?_
    | refine And.intro (fun h => absurd h (by decide)) (fun _ => ?_)
    | refine And.intro (fun _ => ?_) (fun h => absurd (by decide) h)
    | refine And.intro (fun _ => ?_) (fun _ => ?_)
    | refine And.intro ?_ ?_
  all_goals (first | decide | assumption | omega | rfl | (unfold fp_sur; rw [if_pos (by omega)]) | (trace_state; fail))
