theorem n_divisorG {l : Launch} {μ : am_N} {Q : Option am_V → am_N → Prop} (G : Int → Int → Int) (hG : ∀ x y : Int, 0 ≤ x → 0 < y → G y (x.tmod y) = G x y ∧ 0 ≤ x.tmod y ∧ x.tmod y < y) (hz : ∀ x : Int, 0 ≤ x → G x 0 = x) (A B : Int) (A0 : 0 ≤ A) (A1 : A ≤ 1000000000) (B0 : 1 ≤ B) (B1 : B ≤ 1000000000) (k : Q (some (.inr (.inl (G A B)))) μ) : am_Does l 184 [.inr (.inl A), .inr (.inl B)] μ Q := by
  refine am_Does_of (Nat.le_of_ble_eq_true rfl) (Nat.le_of_ble_eq_true rfl) (Nat.le_of_ble_eq_true rfl) ?_
  have lp6 : ∀ (m : Nat) (x y : Int) (o8 o9 : Option am_V) , 0 ≤ x → x ≤ 1000000000 → 0 ≤ y → y ≤ 1000000000 → G x y = G A B → y < (m : Int) → am_AW l 0 (fun _ => 0) 184 Q 6 [some (.inr (.inl A)), none, some (.inr (.inl B)), none, some (.inr (.inl x)), none, some (.inr (.inl y)), none, o8, o9] [] μ := by
    intro m
    induction m with
    | zero =>
      intro x y o8 o9 hv0 hv1 hv2 hv3 hv4 hm
      exfalso
      omega
    | succ m ih =>
      intro x y o8 o9 hv0 hv1 hv2 hv3 hv4 hm
      have dx : am_d x = x := fp_dR (by omega) (by omega)
      have dy : am_d y = y := fp_dR (by omega) (by omega)
      have e1 : 0 < y → am_c (if am_d 0 < am_d y then 1 else if am_d y = am_d 0 then 0 else -1) = 0 → False := by
        intro q h
        rw [dy, if_pos (show am_d 0 < y from q)] at h
        exact absurd h (by decide)
      have e0 : y = 0 → am_c (if am_d 0 < am_d y then 1 else if am_d y = am_d 0 then 0 else -1) = 0 := by
        intro q
        rw [q]
        rfl
      have kz : y = 0 → Q (some (.inr (.inl x))) μ := fun q => am_qd k (by rw [← hv4, q]; exact (hz x hv0).symm)
      have kp : 0 < y → am_AW l 0 (fun _ => 0) 184 Q 6 [some (.inr (.inl A)), none, some (.inr (.inl B)), none, some (.inr (.inl y)), none, some (.inr (.inl ((am_d x).tmod (am_d y)))), none, some (.inr (.inl ((am_d x).tmod (am_d y)))), none] [] μ := by
        intro q
        obtain ⟨h1, h2, h3⟩ := hG x y hv0 q
        rw [dx, dy]
        exact ih y (x.tmod y) _ _ hv2 hv3 h2 (by omega) (h1.trans hv4) (by omega)
      clear ih k hG hz
      refine am_go (ct := fun pc => Nat.beq pc 6) am_oX7_divisor 300 ?_
      conv => whnf
      refine And.intro (fun h => ?_) (fun h => ?_)
      · have q : y = 0 := Int.le_antisymm (Int.not_lt.mp (fun z => e1 z h)) hv2
        conv => whnf
        exact And.intro trivial (kz q)
      · have q : 0 < y := by
          have n : ¬ y = 0 := fun z => h (e0 z)
          clear h e0 e1 kz kp
          omega
        conv => whnf
        refine And.intro (fun z => ?_) ?_
        · rw [dy] at z
          omega
        · conv => whnf
          exact And.intro trivial (kp q)
  refine am_go (ct := fun pc => Nat.beq pc 6) am_oX7_divisor 300 ?_
  conv => whnf
  exact And.intro trivial (lp6 (B + 1).toNat A B none none A0 A1 (by omega) B1 rfl (by omega))
theorem n_divisor {l : Launch} {μ : am_N} {Q : Option am_V → am_N → Prop} (A B : Int) (A0 : 0 ≤ A) (A1 : A ≤ 1000000000) (B0 : 1 ≤ B) (B1 : B ≤ 1000000000) (k : Q (some (.inr (.inl (fp_gd A B)))) μ) : am_Does l 184 [.inr (.inl A), .inr (.inl B)] μ Q := n_divisorG fp_gd (fun _ _ h g => fp_gd_s h g) (fun _ h => fp_gd_0 h) A B A0 A1 B0 B1 k
