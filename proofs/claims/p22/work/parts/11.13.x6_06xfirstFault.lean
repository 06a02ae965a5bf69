theorem x_firstFault {l : Launch} {ν : am_N} {Q : Option am_V → am_N → Prop} (t : Nat → Int) (n : Int) (ht : ν 37 = t) (hn : ν 36 1 = n) (n0 : 0 ≤ n) (n1 : n ≤ 96) (hL : ∀ i : Nat, (i : Int) < n → 0 ≤ t i ∧ t i ≤ 255) (k1 : ∀ K : Nat, fp_pr t n K → (fp_pk t n K < n ∨ K = 0) → am_bh t n (fp_pk t n K) < 0 → Q (some (.inl (-1 - am_bh t n (fp_pk t n K)))) ν) (k2 : ∀ K : Nat, 1 ≤ K → fp_pr t n K → n ≤ fp_pk t n K → Q (some (.inl (-1))) ν) : am_Does l 51 [.inr (.inr 35)] ν Q := by
  refine am_Does_of (Nat.le_of_ble_eq_true rfl) (Nat.le_of_ble_eq_true rfl) (Nat.le_of_ble_eq_true rfl) ?_
  have l0 : am_c 0 = 0 := rfl
  have l1 : am_c 1 = 1 := rfl
  have l3 : am_c 3 = 3 := rfl
  have l4 : am_c 4 = 4 := rfl
  have l5 : am_c 5 = 5 := rfl
  have l20 : am_c 20 = 20 := rfl
  have l40 : am_c 40 = 40 := rfl
  have l48 : am_c 48 = 48 := rfl
  have l57 : am_c 57 = 57 := rfl
  have l59 : am_c 59 = 59 := rfl
  have l119 : am_c 119 = 119 := rfl
  have l200 : am_c 200 = 200 := rfl
  have l999 : am_c 999 = 999 := rfl
  have cn : am_c (ν 36 1) = n := by rw [hn]; exact am_cR (by omega) (by omega)
  have lp16 : ∀ (m : Nat) (a j : Int) (o3 : Option am_V) , 0 ≤ j → a = fp_pk t n j.toNat → fp_pr t n j.toNat → 1 ≤ n → n - j < (m : Int) → am_AW l 0 (fun _ => 0) 51 Q 16 [some (.inr (.inr 35)), some (.inl a), some (.inl j), o3] [] ν := by
    intro m
    induction m with
    | zero =>
      intro a j o3  hv0 hv1 hv2 hv3 hm
      have hb := fp_pk_b n0 j.toNat hv2
      exfalso
      omega
    | succ m ih =>
      intro a j o3  hv0 hv1 hv2 hv3 hm
      have hb := fp_pk_b n0 j.toNat hv2
      have ca : am_c a = a := am_cR (by omega) (by omega)
      have cj : am_c j = j := am_cR (by omega) (by omega)
      have ej : (j + 1).toNat = j.toNat + 1 := by omega
      refine am_go (ct := fun pc => Nat.beq pc 16) am_oX5_firstFault 300 ?_
      conv => whnf
      repeat' first
        | (refine (?_ : am_wp _ _ _ _ _ _ _ _ _ _ _ _); conv => whnf)
        | (refine (?_ : am_sw _ _ _ _); conv => whnf)
        | refine And.intro trivial ?_
        | exact trivial
        | ((with_reducible refine (?_ : am_Does _ 52 _ _ _)); refine x_behindT t n _ ?_ ?_ n0 n1 hL ?_ ?_ (fun v ev v0 v1 cv => ?_))
        | refine k2 j.toNat ?_ hv2 ?_
        | (refine am_qe (k1 j.toNat hv2 ?_ ?_) ?_)
        | (refine am_qe (k1 0 fp_pr_0 (Or.inr rfl) ?_) ?_)
        | ((with_reducible refine (?_ : am_AW _ _ _ _ _ 16 _ _ _)); refine ih _ _ _  ?_ ?_ ?_ ?_ ?_)
        | refine And.intro (fun h => absurd h (by decide)) (fun _ => ?_)
        | refine And.intro (fun _ => ?_) (fun h => absurd (by decide) h)
        | refine And.intro (fun _ => ?_) (fun _ => ?_)
        | refine And.intro ?_ ?_
      all_goals (first | decide | exact ht | exact hn | omega | (simp only [cn] at *; omega) | (rw [← hv1]; first | omega | (simp only [cn] at *; omega)) | (rw [← hv1, ← ev]; omega) | (rw [ej]; show v = am_bh t n (fp_pk t n j.toNat); rw [← hv1]; exact ev) | (rw [ej]; exact fp_pr_s hv2 (by omega) (by rw [← hv1]; omega)) | (have z : j.toNat ≠ 0 := (fun y => by rw [y] at hv1; have : a = 0 := hv1; simp only [cn] at *; omega); omega) | (trace_state; fail))
  have lp16' : ∀ (a j : Int) (o3 : Option am_V) , 0 ≤ j → a = fp_pk t n j.toNat → fp_pr t n j.toNat → 1 ≤ n → am_AW l 0 (fun _ => 0) 51 Q 16 [some (.inr (.inr 35)), some (.inl a), some (.inl j), o3] [] ν := fun a j o3  hv0 hv1 hv2 hv3 => lp16 ((n - j) + 1).toNat a j o3  hv0 hv1 hv2 hv3 (by omega)
  refine am_go (ct := fun pc => Nat.beq pc 16) am_oX5_firstFault 300 ?_
  conv => whnf
  repeat' first
    | (refine (?_ : am_wp _ _ _ _ _ _ _ _ _ _ _ _); conv => whnf)
    | (refine (?_ : am_sw _ _ _ _); conv => whnf)
    | refine And.intro trivial ?_
    | exact trivial
    | (refine am_qe (k1 0 fp_pr_0 (Or.inr rfl) ?_) ?_)
    | ((with_reducible refine (?_ : am_AW _ _ _ _ _ 16 _ _ _)); refine lp16' _ _ _  ?_ ?_ ?_ ?_)
    | refine And.intro (fun h => absurd h (by decide)) (fun _ => ?_)
    | refine And.intro (fun _ => ?_) (fun h => absurd (by decide) h)
    | refine And.intro (fun _ => ?_) (fun _ => ?_)
    | refine And.intro ?_ ?_
  all_goals (first | decide | exact ht | exact hn | omega | rfl | exact fp_pr_0 | (simp only [cn] at *; omega) | (have z : am_bh t n (fp_pk t n 0) = -1 - 0 := am_bh_1 (by rw [show am_nx t n (fp_pk t n 0) = -1 from if_neg (by show ¬(0 ≤ (0 : Int) ∧ (0 : Int) < n); simp only [cn] at *; omega)]; decide); omega) | (trace_state; fail))
