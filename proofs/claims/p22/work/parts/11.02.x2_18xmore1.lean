/-! the mending -/
def am_hd (v : Int) : Int := if v < 0 then 0 else if 99 < v then 99 else v
theorem am_hd_b (v : Int) : 0 ≤ am_hd v ∧ am_hd v ≤ 99 := by
  unfold am_hd
  split
  · omega
  · split <;> omega
def am_pt (s : Nat → Int) (j : Nat) (v : Int) : Nat → Int := fun b => if b = j then v else s b
def am_m1 (rule yard f : Int) (s : Nat → Int) : Nat → Int := if rule = 1 ∨ rule = 3 ∨ rule = 4 then am_pt s f.toNat (am_hd (s f.toNat - yard)) else s
def am_m2 (rule yard g : Int) (s : Nat → Int) : Nat → Int := if rule = 2 ∨ rule = 3 then am_pt s g.toNat (am_hd (s g.toNat + yard)) else s
def am_m3 (rule i f : Int) (s : Nat → Int) : Nat → Int := fun b => if rule = 4 ∧ (b : Int) < i ∧ (b : Int) ≠ f then am_hd (s b + 1) else s b
def am_mn (rule yard n f g : Int) (s : Nat → Int) : Nat → Int := am_m3 rule n f (am_m2 rule yard g (am_m1 rule yard f s))
theorem am_pt_up {μ : am_N} {k j : Nat} {v : Int} : am_up μ k j v k = am_pt (μ k) j v := by
  funext b
  simp only [am_up, am_pt, true_and]
theorem am_m1_b {rule yard f : Int} {s : Nat → Int} (h : ∀ b : Nat, b < 4 → 0 ≤ s b ∧ s b ≤ 99) : ∀ b : Nat, b < 4 → 0 ≤ am_m1 rule yard f s b ∧ am_m1 rule yard f s b ≤ 99 := fun b hb => by
  unfold am_m1
  split
  · unfold am_pt
    split
    · exact am_hd_b _
    · exact h b hb
  · exact h b hb
theorem am_m2_b {rule yard g : Int} {s : Nat → Int} (h : ∀ b : Nat, b < 4 → 0 ≤ s b ∧ s b ≤ 99) : ∀ b : Nat, b < 4 → 0 ≤ am_m2 rule yard g s b ∧ am_m2 rule yard g s b ≤ 99 := fun b hb => by
  unfold am_m2
  split
  · unfold am_pt
    split
    · exact am_hd_b _
    · exact h b hb
  · exact h b hb
theorem am_m3_b {rule i f : Int} {s : Nat → Int} (h : ∀ b : Nat, b < 4 → 0 ≤ s b ∧ s b ≤ 99) : ∀ b : Nat, b < 4 → 0 ≤ am_m3 rule i f s b ∧ am_m3 rule i f s b ≤ 99 := fun b hb => by
  unfold am_m3
  split
  · exact am_hd_b _
  · exact h b hb
theorem am_m3_0 {rule f : Int} {s : Nat → Int} : am_m3 rule 0 f s = s := by
  funext b
  simp only [am_m3]
  rw [if_neg (by omega)]
theorem am_m3_n {rule i f : Int} {s : Nat → Int} (h : rule ≠ 4) : am_m3 rule i f s = s := by
  funext b
  simp only [am_m3]
  rw [if_neg (fun z => h z.1)]
/-- one step: the one at i is not the first -/
theorem am_m3_s {rule i f v : Int} {j : Nat} {s : Nat → Int} (h : rule = 4) (h0 : 0 ≤ i) (h1 : i ≠ f) (hj : j = i.toNat) (hv : v = am_hd (am_m3 rule i f s i.toNat + 1)) : am_pt (am_m3 rule i f s) j v = am_m3 rule (i + 1) f s := by
  subst hj; subst hv
  funext b
  simp only [am_pt, am_m3]
  by_cases e : b = i.toNat
  · subst e
    rw [if_pos rfl, if_neg (by omega), if_pos (by omega)]
  · rw [if_neg e]
    by_cases e2 : (b : Int) < i ∧ (b : Int) ≠ f
    · rw [if_pos ⟨h, e2⟩, if_pos (by omega)]
    · rw [if_neg (by omega), if_neg (by omega)]
theorem am_m3_f {rule i f : Int} {s : Nat → Int} (h1 : i = f) : am_m3 rule i f s = am_m3 rule (i + 1) f s := by
  funext b
  simp only [am_m3]
  by_cases e2 : rule = 4 ∧ (b : Int) < i ∧ (b : Int) ≠ f
  · rw [if_pos e2, if_pos (by omega)]
  · rw [if_neg e2, if_neg (by omega)]
theorem am_qu {Q : Option am_V → am_N → Prop} {r : Option am_V} {μ : am_N} {k j i : Nat} {v w : Int} (q : Q r (am_up μ k i w)) (h1 : j = i) (h2 : v = w) : Q r (am_up μ k j v) := by subst h1; subst h2; exact q
theorem x_more_1 {l : Launch} {ν : am_N} {Q : Option am_V → am_N → Prop} (i d : Int) (hi0 : 0 ≤ i) (hi1 : i < ν 1 4) (hn : ν 1 4 ≤ 4) (hs0 : 0 ≤ ν 6 i.toNat) (hs1 : ν 6 i.toNat ≤ 99) (d0 : -1000 ≤ d) (d1 : d ≤ 1000) (k : Q none (am_up ν 6 i.toNat (am_hd (ν 6 i.toNat + d)))) : am_Does l 11 [.inr (.inr 1), .inl i, .inl d] ν Q := by
  refine am_Does_of (Nat.le_of_ble_eq_true rfl) (Nat.le_of_ble_eq_true rfl) (Nat.le_of_ble_eq_true rfl) ?_
  have ci : am_c i = i := am_cR (by omega) (by omega)
  have cn : am_c (ν 1 4) = ν 1 4 := am_cR (by omega) (by omega)
  have c99 : am_c 99 = 99 := rfl
  have ei : (am_c i).toNat = i.toNat := by rw [ci]
  have cv : am_c (ν 6 i.toNat + d) = ν 6 i.toNat + d := am_cR (by omega) (by omega)
  refine am_go (ct := fun _ => false) am_oX0_more 300 ?_
  conv => whnf
  repeat' first
    | (refine (?_ : am_wp _ _ _ _ _ _ _ _ _ _ _ _); conv => whnf)
    | (refine (?_ : am_sw _ _ _ _); conv => whnf)
    | refine And.intro trivial ?_
    | exact trivial
    | refine am_qu k ?_ ?_
    | refine And.intro (fun h => absurd h (by decide)) (fun _ => ?_)
    | refine And.intro (fun _ => ?_) (fun h => absurd (by decide) h)
    | refine And.intro (fun _ => ?_) (fun _ => ?_)
    | refine And.intro ?_ ?_
  all_goals (first | decide | assumption | omega | (simp only [ei, ci, cn] at *; omega) | (unfold am_hd; first | (rw [if_pos (by simp only [ci, cv, c99] at *; omega)]) | (rw [if_neg (by simp only [ci, cv, c99] at *; omega), if_pos (by simp only [ci, cv, c99] at *; omega)]) | (rw [if_neg (by simp only [ci, cv, c99] at *; omega), if_neg (by simp only [ci, cv, c99] at *; omega), ei])) | (simp only [ei] at *; (unfold am_hd; first | (rw [if_pos (by simp only [ci, cv, c99] at *; omega)]) | (rw [if_neg (by simp only [ci, cv, c99] at *; omega), if_pos (by simp only [ci, cv, c99] at *; omega)]) | (rw [if_neg (by simp only [ci, cv, c99] at *; omega), if_neg (by simp only [ci, cv, c99] at *; omega), ei]))) | (trace_state; fail))
