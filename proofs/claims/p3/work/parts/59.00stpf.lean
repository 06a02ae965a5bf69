/-! the same step, found by halves -/
def am_stpf (l : Launch) (L : Nat) (xs : Nat → Int) (y : Nat) (Q : Option am_V → am_N → Prop) (K : Nat → List (Option am_V) → List am_V → am_N → Prop) (x : am_I) (lv : List (Option am_V)) (st : List am_V) (μ : am_N) : Prop :=
  match x with
  | (nx, op, a, b, c, z, ts) => bif Nat.blt 48 op then False else bif Nat.blt op 7 then (bif Nat.blt op 3 then (bif Nat.blt op 2 then (bif Nat.blt op 1 then ((K nx lv (.inl z :: st) μ)) else ((K nx lv (.inr (.inl z) :: st) μ))) else ((match lv[a]? with
        | some (some (.inl v)) => K nx lv (.inl v :: st) μ
        | _ => False))) else (bif Nat.blt op 6 then (bif Nat.blt op 4 then ((match st with
        | .inl v :: r => am_if (Nat.blt a lv.length && am_nl lv a) (K nx (lv.set a (some (.inl v))) r μ)
        | _ => False)) else (bif Nat.blt op 5 then ((match lv[a]? with
        | some (some (.inr (.inl v))) => K nx lv (.inr (.inl v) :: st) μ
        | _ => False)) else ((match st with
        | .inr (.inl v) :: r => am_if (Nat.blt (a + 1) lv.length && am_nl lv a) (K nx ((lv.set a (some (.inr (.inl v)))).set (a + 1) none) r μ)
        | _ => False)))) else ((match lv[a]? with
        | some (some (.inr (.inr v))) => K nx lv (.inr (.inr v) :: st) μ
        | _ => False)))) else (bif Nat.blt op 26 then (bif Nat.blt op 10 then (bif Nat.blt op 8 then ((match st with
        | .inr (.inr k) :: r => match am_sh[k]? with
          | some (t, fs) => am_if (Nat.beq t (a + 2)) (match fs[b]? with
            | some 0 => K nx lv (.inl (μ k b) :: r) μ
            | some (j + 1) => K nx lv (.inr (.inr j) :: r) μ
            | none => False)
          | none => False
        | _ => False)) else (bif Nat.blt op 9 then ((match st with
        | .inl v :: .inr (.inr k) :: r => match am_sh[k]? with
          | some (t, fs) => am_if (Nat.beq t (a + 2)) (match fs[b]? with
            | some 0 => (match c with
              | 0 => K nx lv r (am_up μ k b v)
              | _ => (v = 0 ∨ v = 1) ∧ K nx lv r (am_up μ k b v))
            | _ => False)
          | none => False
        | _ => False)) else ((match st with
        | .inl i :: .inr (.inr k) :: r => match am_sh[k]? with
          | some (0, n :: _) => (0 ≤ am_c i ∧ am_c i < n) ∧ K nx lv (.inl (μ k (am_c i).toNat) :: r) μ
          | some _ => False
          | none => (y = 0 ∧ k = 999) ∧ (0 ≤ am_c i ∧ am_c i < L) ∧ K nx lv (.inl (xs (am_c i).toNat) :: r) μ
        | _ => False)))) else (bif Nat.blt op 17 then (bif Nat.blt op 14 then (bif Nat.blt op 13 then (bif Nat.blt op 11 then ((match st with
        | .inl v :: .inl i :: .inr (.inr k) :: r => match am_sh[k]? with
          | some (0, n :: _) => (0 ≤ am_c i ∧ am_c i < n) ∧ K nx lv r (am_up μ k (am_c i).toNat v)
          | _ => False
        | _ => False)) else (bif Nat.blt op 12 then ((match st with
        | .inl i :: .inr (.inr k) :: r => match am_sh[k]? with
          | some (1, fs) => (0 ≤ am_c i ∧ am_c i < (fs.length : Int)) ∧ ∀ j : Nat, fs[(am_c i).toNat]? = some j → K nx lv (.inr (.inr j) :: r) μ
          | _ => False
        | _ => False)) else ((match st with
        | .inr (.inr k) :: r => match am_sh[k]? with
          | some (0, n :: _) => K nx lv (.inl (n : Int) :: r) μ
          | some (1, fs) => K nx lv (.inl (fs.length : Int) :: r) μ
          | some _ => False
          | none => (y = 0 ∧ k = 999) ∧ K nx lv (.inl (L : Int) :: r) μ
        | _ => False)))) else ((match st with
        | .inl v :: .inl u :: r => K nx lv (.inl (u + v) :: r) μ
        | _ => False))) else (bif Nat.blt op 15 then ((match st with
        | .inl v :: .inl u :: r => K nx lv (.inl (u - v) :: r) μ
        | _ => False)) else (bif Nat.blt op 16 then ((match st with
        | .inl v :: .inl u :: r => K nx lv (.inl (u * v) :: r) μ
        | _ => False)) else ((match st with
        | .inl v :: .inl u :: r => am_c v ≠ 0 ∧ K nx lv (.inl ((am_c u).tdiv (am_c v)) :: r) μ
        | _ => False))))) else (bif Nat.blt op 25 then (bif Nat.blt op 24 then (bif Nat.blt op 20 then (bif Nat.blt op 18 then ((match st with
        | .inl v :: .inl u :: r => am_c v ≠ 0 ∧ K nx lv (.inl ((am_c u).tmod (am_c v)) :: r) μ
        | _ => False)) else (bif Nat.blt op 19 then ((match st with
        | .inl v :: .inl u :: r => K nx lv (.inl (am_and u v) :: r) μ
        | _ => False)) else ((match st with
        | .inl v :: .inl u :: r => K nx lv (.inl (am_or u v) :: r) μ
        | _ => False)))) else (bif Nat.blt op 22 then (bif Nat.blt op 21 then ((match st with
        | .inl v :: .inl u :: r => K nx lv (.inl (am_xor u v) :: r) μ
        | _ => False)) else ((match st with
        | .inl v :: .inl u :: r => K nx lv (.inl (am_shl u v) :: r) μ
        | _ => False))) else (bif Nat.blt op 23 then ((match st with
        | .inl v :: .inl u :: r => K nx lv (.inl (am_shr u v) :: r) μ
        | _ => False)) else ((match st with
        | .inl v :: r => K nx lv (.inl (-v) :: r) μ
        | _ => False))))) else ((match lv[a]? with
        | some (some (.inl v)) => am_if (am_nl lv a) (K nx (lv.set a (some (.inl (v + z)))) st μ)
        | _ => False))) else ((K a lv st μ))))) else (bif Nat.blt op 40 then (bif Nat.blt op 27 then ((match st with
        | .inl v :: r => am_br2 b (am_c v) 0 (K a lv r μ) (K nx lv r μ)
        | _ => False)) else (bif Nat.blt op 28 then ((match st with
        | .inl v :: .inl u :: r => am_br2 b (am_c u) (am_c v) (K a lv r μ) (K nx lv r μ)
        | _ => False)) else (bif Nat.blt op 29 then ((match st with
        | .inl _ :: r => K nx lv r μ
        | _ => False)) else (bif Nat.blt op 32 then (bif Nat.blt op 30 then ((match st with
        | .inr (.inl _) :: r => K nx lv r μ
        | _ => False)) else (bif Nat.blt op 31 then ((match st with
        | .inl v :: r => K nx lv (.inl v :: .inl v :: r) μ
        | .inr (.inr v) :: r => K nx lv (.inr (.inr v) :: .inr (.inr v) :: r) μ
        | _ => False)) else ((match st with
        | .inl v :: .inr (.inr u) :: r => K nx lv (.inl v :: .inr (.inr u) :: .inl v :: .inr (.inr u) :: r) μ
        | _ => False)))) else (bif Nat.blt op 34 then (bif Nat.blt op 33 then ((match st with
        | .inl v :: .inr (.inr u) :: r => K nx lv (.inl v :: .inr (.inr u) :: .inl v :: r) μ
        | _ => False)) else ((match st with
        | .inl v :: r => K nx lv (.inr (.inl (am_c v)) :: r) μ
        | _ => False))) else (bif Nat.blt op 37 then (bif Nat.blt op 35 then ((match st with
        | .inr (.inl v) :: .inr (.inl u) :: r => K nx lv (.inl (if am_d v < am_d u then 1 else if am_d u = am_d v then 0 else -1) :: r) μ
        | _ => False)) else (bif Nat.blt op 36 then ((match st with
        | .inr (.inl v) :: .inr (.inl u) :: r => K nx lv (.inr (.inl (u + v)) :: r) μ
        | _ => False)) else ((match st with
        | .inr (.inl v) :: .inr (.inl u) :: r => K nx lv (.inr (.inl (u - v)) :: r) μ
        | _ => False)))) else (bif Nat.blt op 39 then (bif Nat.blt op 38 then ((match st with
        | .inr (.inl v) :: .inr (.inl u) :: r => K nx lv (.inr (.inl (u * v)) :: r) μ
        | _ => False)) else ((match st with
        | .inr (.inl v) :: .inr (.inl u) :: r => am_d v ≠ 0 ∧ K nx lv (.inr (.inl ((am_d u).tdiv (am_d v))) :: r) μ
        | _ => False))) else ((match st with
        | .inr (.inl v) :: .inr (.inl u) :: r => am_d v ≠ 0 ∧ K nx lv (.inr (.inl ((am_d u).tmod (am_d v))) :: r) μ
        | _ => False))))))))) else (bif Nat.blt op 41 then ((match (st.take b).reverse with
        | .inr (.inr k) :: as => am_if (Nat.beq (am_tag k) c && (Nat.ble b st.length && Nat.ble ((st.drop b).map am_cat).sum 8)) (True ∧ am_Does l a (.inr (.inr k) :: as) μ (fun r μ' => K nx lv (am_rs r ++ st.drop b) μ'))
        | _ => False)) else (bif Nat.blt op 43 then (bif Nat.blt op 42 then ((am_if (Nat.ble b st.length && Nat.ble ((st.drop b).map am_cat).sum 8) (True ∧ am_Does l a (st.take b).reverse μ (fun r μ' => K nx lv (am_rs r ++ st.drop b) μ')))) else ((match st with
        | [] => True ∧ Q none μ
        | _ => False))) else (bif Nat.blt op 44 then ((match st with
        | [.inl v] => match c with
          | 0 => True ∧ Q (some (.inl v)) μ
          | _ => (v = 0 ∨ v = 1) ∧ Q (some (.inl v)) μ
        | _ => False)) else (bif Nat.blt op 45 then ((match st with
        | [.inr (.inl v)] => True ∧ Q (some (.inr (.inl v))) μ
        | _ => False)) else (bif Nat.blt op 46 then ((match st with
        | .inl v :: r => am_sw ts (am_c v) a (fun t => K t lv r μ)
        | _ => False)) else (bif Nat.blt op 47 then ((match st with
        | .inl v :: .inl u :: r => am_if (Nat.ble (r.map am_cat).sum 8) (K nx lv (.inl (if am_c u < am_c v then v else u) :: r) μ)
        | _ => False)) else (bif Nat.blt op 48 then ((match st with
        | .inl v :: .inl u :: r => am_if (Nat.ble (r.map am_cat).sum 8) (K nx lv (.inl (if am_c v < am_c u then v else u) :: r) μ)
        | _ => False)) else ((match st with
        | .inl u :: r => am_if (Nat.ble (r.map am_cat).sum 8) (K nx lv (.inl (if 0 ≤ am_c u then u else 0 - u) :: r) μ)
        | _ => False)))))))))))
theorem am_cnd {b : Bool} {X : Prop} (h : b = true) : (cond b False X) = False := by rw [h]; rfl
theorem am_stpf_eq (l : Launch) (L : Nat) (xs : Nat → Int) (y : Nat) (Q : Option am_V → am_N → Prop) (K : Nat → List (Option am_V) → List am_V → am_N → Prop) (x : am_I) (lv : List (Option am_V)) (st : List am_V) (μ : am_N) : am_stpf l L xs y Q K x lv st μ = am_stp l L xs y Q K x lv st μ := by
  obtain ⟨nx, op, a, b, c, z, ts⟩ := x
  match op with
  | 0 => rfl
  | 1 => rfl
  | 2 => rfl
  | 3 => rfl
  | 4 => rfl
  | 5 => rfl
  | 6 => rfl
  | 7 => rfl
  | 8 => rfl
  | 9 => rfl
  | 10 => rfl
  | 11 => rfl
  | 12 => rfl
  | 13 => rfl
  | 14 => rfl
  | 15 => rfl
  | 16 => rfl
  | 17 => rfl
  | 18 => rfl
  | 19 => rfl
  | 20 => rfl
  | 21 => rfl
  | 22 => rfl
  | 23 => rfl
  | 24 => rfl
  | 25 => rfl
  | 26 => rfl
  | 27 => rfl
  | 28 => rfl
  | 29 => rfl
  | 30 => rfl
  | 31 => rfl
  | 32 => rfl
  | 33 => rfl
  | 34 => rfl
  | 35 => rfl
  | 36 => rfl
  | 37 => rfl
  | 38 => rfl
  | 39 => rfl
  | 40 => rfl
  | 41 => rfl
  | 42 => rfl
  | 43 => rfl
  | 44 => rfl
  | 45 => rfl
  | 46 => rfl
  | 47 => rfl
  | 48 => rfl
  | n + 49 =>
    first | rfl | exact am_cnd (X := True) (show Nat.blt 48 (n + 49) = true from Nat.ble_eq_true_of_le (by omega))
def am_wpf (l : Launch) (L : Nat) (xs : Nat → Int) (y : Nat) (Q : Option am_V → am_N → Prop) (cd : Nat → am_I) (ct : Nat → Bool) : Nat → Nat → List (Option am_V) → List am_V → am_N → Prop
  | 0, pc, lv, st, μ => True ∧ am_AW l L xs y Q pc lv st μ
  | n + 1, pc, lv, st, μ => match ct pc with
    | true => True ∧ am_AW l L xs y Q pc lv st μ
    | false => am_stpf l L xs y Q (am_wpf l L xs y Q cd ct n) (cd pc) lv st μ
theorem am_wpf_ok {l : Launch} {L : Nat} {xs : Nat → Int} {y : Nat} {Q : Option am_V → am_N → Prop} {cd : Nat → am_I} {ct : Nat → Bool} (hok : am_ok y cd) : ∀ (n pc : Nat) (lv : List (Option am_V)) (st : List am_V) (μ : am_N), am_wpf l L xs y Q cd ct n pc lv st μ → am_AW l L xs y Q pc lv st μ
  | 0, _, _, _, _, h => h.2
  | n + 1, pc, lv, st, μ, h => by
    unfold am_wpf at h
    cases hc : ct pc with
    | true => rw [hc] at h; exact h.2
    | false =>
      rw [hc] at h
      have h := (am_stpf_eq l L xs y Q _ (cd pc) lv st μ).mp h
      rcases hok pc with q | q
      · exact (am_99 q h).elim
      · exact am_stp_ok (fun pc lv st μ hk => am_wpf_ok hok n pc lv st μ hk) q h
theorem am_gof {l : Launch} {L : Nat} {xs : Nat → Int} {y : Nat} {Q : Option am_V → am_N → Prop} {cd : Nat → am_I} {ct : Nat → Bool} {pc : Nat} {lv : List (Option am_V)} {st : List am_V} {μ : am_N} (hok : am_ok y cd) (n : Nat) (h : am_stpf l L xs y Q (am_wpf l L xs y Q cd ct n) (cd pc) lv st μ) : am_AW l L xs y Q pc lv st μ := by
  have h := (am_stpf_eq l L xs y Q _ (cd pc) lv st μ).mp h
  rcases hok pc with q | q
  · exact (am_99 q h).elim
  · exact am_stp_ok (fun pc lv st μ hk => am_wpf_ok hok n pc lv st μ hk) q h
