/-! from the machine's entry of a method to the abstract one; many steps in one condition -/
def am_sl (args : List am_V) : List (Option am_V) := args.flatMap (fun v => if am_cat v = 2 then [some v, none] else [some v])
def am_lv (n : Nat) (args : List am_V) : List (Option am_V) := am_sl args ++ List.replicate (n - (am_sl args).length) none
theorem am_sl_len (ad : Nat → Nat) (args : List am_V) : (lg_sl (args.map (am_rv ad))).length = (am_sl args).length := by
  induction args with
  | nil => rfl
  | cons v r ih =>
    unfold lg_sl am_sl at ih ⊢
    simp only [List.map_cons, List.flatMap_cons, List.length_append, ih, am_cat_rv]
    split <;> rfl
theorem am_sl_at (ad : Nat → Nat) : ∀ (args : List am_V) (k i : Nat) (v : am_V), (am_sl args)[i]? = some (some v) → (k + i, am_rv ad v) ∈ lv_args k (args.map (am_rv ad))
  | [], k, i, v, h => by simp [am_sl] at h
  | a :: r, k, i, v, h => by
    unfold am_sl at h
    simp only [List.map_cons, lv_args, am_cat_rv]
    rw [List.flatMap_cons] at h
    by_cases hc : am_cat a = 2
    · simp only [if_pos hc] at h ⊢
      match i, h with
      | 0, h =>
        have e : a = v := by simpa using h
        rw [e]; exact List.mem_cons_self
      | 1, h => simp at h
      | i + 2, h =>
        have q := am_sl_at ad r (k + 2) i v (by simpa [am_sl] using h)
        rw [show k + (i + 2) = k + 2 + i by omega]
        exact List.mem_cons_of_mem _ q
    · simp only [if_neg hc] at h ⊢
      match i, h with
      | 0, h =>
        have e : a = v := by simpa using h
        rw [e]; exact List.mem_cons_self
      | i + 1, h =>
        have q := am_sl_at ad r (k + 1) i v (by simpa [am_sl] using h)
        rw [show k + (i + 1) = k + 1 + i by omega]
        exact List.mem_cons_of_mem _ q
theorem am_ent {ad : Nat → Nat} {args : List am_V} {n : Nat} (hn : (am_sl args).length ≤ n) : am_L ((lg_sl (args.map (am_rv ad)) ++ List.replicate (n - (lg_sl (args.map (am_rv ad))).length) Slot.unset).toArray) n ad (am_lv n args) := by
  refine am_L.of (lv_entry (args.map (am_rv ad)) (n := n) (by rw [am_sl_len]; exact hn)) (by unfold am_lv; rw [List.length_append, List.length_replicate]; omega) fun i v hv => ?_
  unfold am_lv at hv
  by_cases hi : i < (am_sl args).length
  · rw [List.getElem?_append_left hi] at hv
    have q := am_sl_at ad args 0 i v hv
    rwa [Nat.zero_add] at q
  · rw [List.getElem?_append_right (by omega), List.getElem?_replicate] at hv
    split at hv <;> simp at hv
theorem am_Does_of {l : Launch} {y : Nat} {args : List am_V} {μ : am_N} {Q : Option am_V → am_N → Prop} (h0 : 0 < y) (h1 : y < am_ny) (hn : (am_sl args).length ≤ am_ml y) (h : am_AW l 0 (fun _ => 0) y Q 0 (am_lv (am_ml y) args) [] μ) : am_Does l y args μ Q := by
  intro D ad ca tys B0 hTY
  refine Met.ofW (cc := am_bt y) (maxL := am_ml y) (ret := am_re y) (am_md_pl h0 h1) rfl ?_
  intro p e s m aargs below meth c s₁ B hml hv
  obtain ⟨rfl, hB, hP, hK, hD⟩ := hv
  have hlocks := B.notSynchronized
  have hx := B.exec
  have hb := B.bytes
  have hr := B.returns
  have hts := atoms_spec (ws := am_w y) B.pre
  have hown : s.vm.findClass (am_md y).1.cls = some m.cls := findClass_of_methodNamed B.named
  rw [(am_md_ok h0 h1).1] at hown
  rw [lg_entry_eq]
  refine h p e (headSpec (am_w y) (am_rm y)).room s m _ below meth c D ad ca tys B0 0 0 _ ⟨hx, hb, hml, hown, fun w hw => hts w (List.mem_cons_of_mem _ hw), hK, hTY, hB, Nat.le_refl _, Nat.le_refl _, Nat.zero_le _, Nat.zero_le _, fun q => absurd q (by omega)⟩ ?_ s.heap [] _ (am_ent hn) hP hD va_S.rf
  intro r μ' H locs pc' ls hq hP hD hS hrt
  match r, hq, hrt with
  | none, hq, hrt => exact W.vret hx hb (hr.trans hrt.2) (fun t ht hW => ⟨⟨none, μ', rfl, hq, by rw [ht]; exact hP, hD⟩, hS.F ht⟩) hS.2.2 hrt.1 hlocks
  | some (.inl z), hq, hrt =>
    rcases hrt.2 with q | ⟨q, hz⟩
    · exact W.iret (v := Int32.ofInt z) hx hb (hr.trans q) (fun t ht hW => ⟨⟨some (.inl z), μ', rfl, hq, by rw [ht]; exact hP, hD⟩, hS.F ht⟩) hS.2.2 hrt.1 hlocks
    · exact W.zret (v := Int32.ofInt z) hx hb (hr.trans q) (am_nz hz) (fun t ht hW => ⟨⟨some (.inl z), μ', rfl, hq, by rw [ht]; exact hP, hD⟩, hS.F ht⟩) hS.2.2 hrt.1 hlocks
  | some (.inr (.inl z)), hq, hrt => exact W.lret (v := Int64.ofInt z) hx hb (hr.trans hrt.2) (fun t ht hW => ⟨⟨some (.inr (.inl z)), μ', rfl, hq, by rw [ht]; exact hP, hD⟩, hS.F ht⟩) hS.2.2 hrt.1 hlocks
theorem am_Does.mono {l : Launch} {y : Nat} {args : List am_V} {μ : am_N} {Q Q' : Option am_V → am_N → Prop} (h : am_Does l y args μ Q) (hq : ∀ r μ', Q r μ' → Q' r μ') : am_Does l y args μ Q' := by
  intro D ad ca tys B0 hTY p e ha hc hk s m args' below hf hfit hheap happ
  obtain ⟨t, o, h1, h2, h3, h4⟩ := h D ad ca tys B0 hTY p e ha hc hk s m args' below hf hfit hheap happ
  refine ⟨t, o, h1, h2, h3, ?_⟩
  obtain ⟨⟨⟨r, μ', e1, e2, e3⟩, e4⟩, e5⟩ := h4
  exact ⟨⟨⟨r, μ', e1, hq _ _ e2, e3⟩, e4⟩, e5⟩
def am_ok (y : Nat) (cd : Nat → am_I) : Prop := ∀ pc, (cd pc).2.1 = 99 ∨ am_chk y pc (cd pc) = true
theorem am_ok_of {y N : Nat} {cd' : Nat → am_I} (h : (List.range N).all (fun pc => Nat.beq (cd' pc).2.1 99 || am_chk y pc (cd' pc)) = true) : am_ok y (fun pc => bif Nat.blt pc N then cd' pc else am_bad) := by
  intro pc
  show (bif Nat.blt pc N then cd' pc else am_bad).2.1 = 99 ∨ am_chk y pc (bif Nat.blt pc N then cd' pc else am_bad) = true
  cases hb : Nat.blt pc N with
  | false => exact Or.inl rfl
  | true =>
    have hlt : pc < N := Nat.le_of_ble_eq_true hb
    have q := List.all_eq_true.mp h pc (List.mem_range.mpr hlt)
    rcases Bool.or_eq_true_iff.mp q with q | q
    · exact Or.inl (Nat.eq_of_beq_eq_true q)
    · exact Or.inr q
def am_wp (l : Launch) (L : Nat) (xs : Nat → Int) (y : Nat) (Q : Option am_V → am_N → Prop) (cd : Nat → am_I) (ct : Nat → Bool) : Nat → Nat → List (Option am_V) → List am_V → am_N → Prop
  | 0, pc, lv, st, μ => True ∧ am_AW l L xs y Q pc lv st μ
  | n + 1, pc, lv, st, μ => match ct pc with
    | true => True ∧ am_AW l L xs y Q pc lv st μ
    | false => am_stp l L xs y Q (am_wp l L xs y Q cd ct n) (cd pc) lv st μ
theorem am_99 {l : Launch} {L : Nat} {xs : Nat → Int} {y : Nat} {Q : Option am_V → am_N → Prop} {K : Nat → List (Option am_V) → List am_V → am_N → Prop} {lv : List (Option am_V)} {st : List am_V} {μ : am_N} {x : am_I} (hx : x.2.1 = 99) (h : am_stp l L xs y Q K x lv st μ) : False := by
  obtain ⟨nx, op, a, b, c, z, ts⟩ := x
  have e : op = 99 := hx
  subst e
  exact h
theorem am_wp_ok {l : Launch} {L : Nat} {xs : Nat → Int} {y : Nat} {Q : Option am_V → am_N → Prop} {cd : Nat → am_I} {ct : Nat → Bool} (hok : am_ok y cd) : ∀ (n pc : Nat) (lv : List (Option am_V)) (st : List am_V) (μ : am_N), am_wp l L xs y Q cd ct n pc lv st μ → am_AW l L xs y Q pc lv st μ
  | 0, _, _, _, _, h => h.2
  | n + 1, pc, lv, st, μ, h => by
    unfold am_wp at h
    cases hc : ct pc with
    | true => rw [hc] at h; exact h.2
    | false =>
      rw [hc] at h
      rcases hok pc with q | q
      · exact (am_99 q h).elim
      · exact am_stp_ok (fun pc lv st μ hk => am_wp_ok hok n pc lv st μ hk) q h
/-- from here on, by at most n steps, stopping where ct says so (not at the first) -/
theorem am_go {l : Launch} {L : Nat} {xs : Nat → Int} {y : Nat} {Q : Option am_V → am_N → Prop} {cd : Nat → am_I} {ct : Nat → Bool} {pc : Nat} {lv : List (Option am_V)} {st : List am_V} {μ : am_N} (hok : am_ok y cd) (n : Nat) (h : am_stp l L xs y Q (am_wp l L xs y Q cd ct n) (cd pc) lv st μ) : am_AW l L xs y Q pc lv st μ := by
  rcases hok pc with q | q
  · exact (am_99 q h).elim
  · exact am_stp_ok (fun pc lv st μ hk => am_wp_ok hok n pc lv st μ hk) q h
/-- what is known of Q may grow -/
theorem am_AW.mono {l : Launch} {L : Nat} {xs : Nat → Int} {y : Nat} {Q Q' : Option am_V → am_N → Prop} {pc : Nat} {lv : List (Option am_V)} {st : List am_V} {μ : am_N} (h : am_AW l L xs y Q pc lv st μ) (hq : ∀ r μ', Q r μ' → Q' r μ') : am_AW l L xs y Q' pc lv st μ :=
  fun p e R s m args below meth c D ad ca tys B0 cells slots Qf E hret => h p e R s m args below meth c D ad ca tys B0 cells slots Qf E (fun r μ' H locs pc' ls hr => hret r μ' H locs pc' ls (hq _ _ hr))
