theorem am_Does.mono {l : Launch} {y : Nat} {args : List am_V} {μ : am_N} {Q Q' : Option am_V → am_N → Prop} (h : am_Does l y args μ Q) (hq : ∀ r μ', Q r μ' → Q' r μ') : am_Does l y args μ Q' := by
  intro D ad ca tys B0 hTY p e ha hc hk s m args' below hf hfit hheap happ
  obtain ⟨t, o, h1, h2, h3, h4⟩ := h D ad ca tys B0 hTY p e ha hc hk s m args' below hf hfit hheap happ
  refine ⟨t, o, h1, h2, h3, ?_⟩
  obtain ⟨⟨⟨r, μ', e1, e2, e3⟩, e4⟩, e5⟩ := h4
  exact ⟨⟨⟨r, μ', e1, hq _ _ e2, e3⟩, e4⟩, e5⟩
def am_ok (y : Nat) (cd : Nat → am_I) : Prop := ∀ pc, (cd pc).2.1 = 99 ∨ am_chk y pc (cd pc) = true
theorem am_ok_of {y N : Nat} {cd' : Nat → am_I} (h : (List.range N).all (fun pc => Nat.beq (cd' pc).2.1 99 || am_chk y pc (cd' pc)) = true) : am_ok y (fun pc => bif Nat.blt pc N then cd' pc else am_bad) := by
  intro pc
  show (bif Nat.blt pc N then cd' pc else am_bad).2.1 = 99 ∨ am_chk y pc (bif Nat.blt pc N then cd' pc else am_bad) = true
  cases hb : Nat.blt pc N with
  | false => exact Or.inl rfl
  | true =>
    have hlt : pc < N := Nat.le_of_ble_eq_true hb
    have q := List.all_eq_true.mp h pc (List.mem_range.mpr hlt)
    rcases Bool.or_eq_true_iff.mp q with q | q
    · exact Or.inl (Nat.eq_of_beq_eq_true q)
    · exact Or.inr q
def am_wp (l : Launch) (L : Nat) (xs : Nat → Int) (y : Nat) (Q : Option am_V → am_N → Prop) (cd : Nat → am_I) (ct : Nat → Bool) : Nat → Nat → List (Option am_V) → List am_V → am_N → Prop
  | 0, pc, lv, st, μ => True ∧ am_AW l L xs y Q pc lv st μ
  | n + 1, pc, lv, st, μ => match ct pc with
    | true => True ∧ am_AW l L xs y Q pc lv st μ
    | false => am_stp l L xs y Q (am_wp l L xs y Q cd ct n) (cd pc) lv st μ
theorem am_99 {l : Launch} {L : Nat} {xs : Nat → Int} {y : Nat} {Q : Option am_V → am_N → Prop} {K : Nat → List (Option am_V) → List am_V → am_N → Prop} {lv : List (Option am_V)} {st : List am_V} {μ : am_N} {x : am_I} (hx : x.2.1 = 99) (h : am_stp l L xs y Q K x lv st μ) : False := by
  obtain ⟨nx, op, a, b, c, z, ts⟩ := x
  have e : op = 99 := hx
  subst e
  exact h
theorem am_wp_ok {l : Launch} {L : Nat} {xs : Nat → Int} {y : Nat} {Q : Option am_V → am_N → Prop} {cd : Nat → am_I} {ct : Nat → Bool} (hok : am_ok y cd) : ∀ (n pc : Nat) (lv : List (Option am_V)) (st : List am_V) (μ : am_N), am_wp l L xs y Q cd ct n pc lv st μ → am_AW l L xs y Q pc lv st μ
  | 0, _, _, _, _, h => h.2
  | n + 1, pc, lv, st, μ, h => by
    unfold am_wp at h
    cases hc : ct pc with
    | true => rw [hc] at h; exact h.2
    | false =>
      rw [hc] at h
      rcases hok pc with q | q
      · exact (am_99 q h).elim
      · exact am_stp_ok (fun pc lv st μ hk => am_wp_ok hok n pc lv st μ hk) q h
/-- from here on, by at most n steps, stopping where ct says so (not at the first) -/
theorem am_go {l : Launch} {L : Nat} {xs : Nat → Int} {y : Nat} {Q : Option am_V → am_N → Prop} {cd : Nat → am_I} {ct : Nat → Bool} {pc : Nat} {lv : List (Option am_V)} {st : List am_V} {μ : am_N} (hok : am_ok y cd) (n : Nat) (h : am_stp l L xs y Q (am_wp l L xs y Q cd ct n) (cd pc) lv st μ) : am_AW l L xs y Q pc lv st μ := by
  rcases hok pc with q | q
  · exact (am_99 q h).elim
  · exact am_stp_ok (fun pc lv st μ hk => am_wp_ok hok n pc lv st μ hk) q h
/-- what is known of Q may grow -/
theorem am_AW.mono {l : Launch} {L : Nat} {xs : Nat → Int} {y : Nat} {Q Q' : Option am_V → am_N → Prop} {pc : Nat} {lv : List (Option am_V)} {st : List am_V} {μ : am_N} (h : am_AW l L xs y Q pc lv st μ) (hq : ∀ r μ', Q r μ' → Q' r μ') : am_AW l L xs y Q' pc lv st μ :=
  fun p e R s m args below meth c D ad ca tys B0 cells slots Qf E hret => h p e R s m args below meth c D ad ca tys B0 cells slots Qf E (fun r μ' H locs pc' ls hr => hret r μ' H locs pc' ls (hq _ _ hr))
/-! a quick decoder, and that it tells what the machine reads -/
theorem rl_b {α β : Type} (r : Decoder α) (f : α → Decoder β) (B : ByteArray) (p : Nat) : (r >>= f : Decoder β) B p = Except.bind (r B p) (fun v => f v.1 B v.2) := by
  first
    | rfl
    | (show Except.bind (r B p) _ = _; cases r B p <;> rfl)
theorem rl_m {α β : Type} (g : α → β) (r : Decoder α) (B : ByteArray) (p : Nat) : (g <$> r : Decoder β) B p = Except.bind (r B p) (fun v => .ok (g v.1, v.2)) := by
  first
    | rfl
    | (show Except.bind (r B p) _ = _; cases r B p <;> rfl)
    | (cases h : r B p with
       | error e => (simp only [Functor.map, ReaderT.bind, StateT.map, bind, Except.bind, h]; done)
       | ok v => (simp only [Functor.map, ReaderT.bind, StateT.map, bind, Except.bind, h]; rfl))
theorem rl_u (B : ByteArray) (p : Nat) : (Reader.u1 : Decoder Nat) B p = if h : p < B.size then .ok ((B[p]'h).toNat, p + 1) else .error (HasTruncated.truncated p) := by
  by_cases h : p < B.size
  · rw [dif_pos h]
    first
      | (show (dite (p < B.size) _ _ : Decoder Nat) B p = _; rw [dif_pos h]; rfl)
      | (unfold Reader.u1; simp only [bind, ReaderT.bind, StateT.bind, Except.bind, read, readThe, MonadReaderOf.read, ReaderT.read, get, getThe, MonadStateOf.get, StateT.get, liftM, monadLift, MonadLift.monadLift, pure, StateT.pure, Except.pure, ReaderT.pure]; rw [dif_pos h]; rfl)
  · rw [dif_neg h]
    first
      | (show (dite (p < B.size) _ _ : Decoder Nat) B p = _; rw [dif_neg h]; rfl)
      | (unfold Reader.u1; simp only [bind, ReaderT.bind, StateT.bind, Except.bind, read, readThe, MonadReaderOf.read, ReaderT.read, get, getThe, MonadStateOf.get, StateT.get, liftM, monadLift, MonadLift.monadLift, pure, StateT.pure, Except.pure, ReaderT.pure]; rw [dif_neg h]; rfl)
