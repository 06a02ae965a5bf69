/-! from the machine's entry of a method to the abstract one; many steps in one condition -/
def am_sl (args : List am_V) : List (Option am_V) := args.flatMap (fun v => if am_cat v = 2 then [some v, none] else [some v])
def am_lv (n : Nat) (args : List am_V) : List (Option am_V) := am_sl args ++ List.replicate (n - (am_sl args).length) none
theorem am_sl_len (ad : Nat → Nat) (args : List am_V) : (lg_sl (args.map (am_rv ad))).length = (am_sl args).length := by
  induction args with
  | nil => rfl
  | cons v r ih =>
    unfold lg_sl am_sl at ih ⊢
    simp only [List.map_cons, List.flatMap_cons, List.length_append, ih, am_cat_rv]
    split <;> rfl
theorem am_sl_at (ad : Nat → Nat) : ∀ (args : List am_V) (k i : Nat) (v : am_V), (am_sl args)[i]? = some (some v) → (k + i, am_rv ad v) ∈ lv_args k (args.map (am_rv ad))
  | [], k, i, v, h => by simp [am_sl] at h
  | a :: r, k, i, v, h => by
    unfold am_sl at h
    simp only [List.map_cons, lv_args, am_cat_rv]
    rw [List.flatMap_cons] at h
    by_cases hc : am_cat a = 2
    · simp only [if_pos hc] at h ⊢
      match i, h with
      | 0, h =>
        have e : a = v := by simpa using h
        rw [e]; exact List.mem_cons_self
      | 1, h => simp at h
      | i + 2, h =>
        have q := am_sl_at ad r (k + 2) i v (by simpa [am_sl] using h)
        rw [show k + (i + 2) = k + 2 + i by omega]
        exact List.mem_cons_of_mem _ q
    · simp only [if_neg hc] at h ⊢
      match i, h with
      | 0, h =>
        have e : a = v := by simpa using h
        rw [e]; exact List.mem_cons_self
      | i + 1, h =>
        have q := am_sl_at ad r (k + 1) i v (by simpa [am_sl] using h)
        rw [show k + (i + 1) = k + 1 + i by omega]
        exact List.mem_cons_of_mem _ q
theorem am_ent {ad : Nat → Nat} {args : List am_V} {n : Nat} (hn : (am_sl args).length ≤ n) : am_L ((lg_sl (args.map (am_rv ad)) ++ List.replicate (n - (lg_sl (args.map (am_rv ad))).length) Slot.unset).toArray) n ad (am_lv n args) := by
  refine am_L.of (lv_entry (args.map (am_rv ad)) (n := n) (by rw [am_sl_len]; exact hn)) (by unfold am_lv; rw [List.length_append, List.length_replicate]; omega) fun i v hv => ?_
  unfold am_lv at hv
  by_cases hi : i < (am_sl args).length
  · rw [List.getElem?_append_left hi] at hv
    have q := am_sl_at ad args 0 i v hv
    rwa [Nat.zero_add] at q
  · rw [List.getElem?_append_right (by omega), List.getElem?_replicate] at hv
    split at hv <;> simp at hv
theorem am_Does_of {l : Launch} {y : Nat} {args : List am_V} {μ : am_N} {Q : Option am_V → am_N → Prop} (h0 : 0 < y) (h1 : y < am_ny) (hn : (am_sl args).length ≤ am_ml y) (h : am_AW l 0 (fun _ => 0) y Q 0 (am_lv (am_ml y) args) [] μ) : am_Does l y args μ Q := by
  intro D ad ca tys B0 hTY
  refine Met.ofW (cc := am_bt y) (maxL := am_ml y) (ret := am_re y) (am_md_pl h0 h1) rfl ?_
  intro p e s m aargs below meth c s₁ B hml hv
  obtain ⟨rfl, hB, hP, hK, hD⟩ := hv
  have hlocks := B.notSynchronized
  have hx := B.exec
  have hb := B.bytes
  have hr := B.returns
  have hts := atoms_spec (ws := am_w y) B.pre
  have hown : s.vm.findClass (am_md y).1.cls = some m.cls := findClass_of_methodNamed B.named
  rw [(am_md_ok h0 h1).1] at hown
  rw [lg_entry_eq]
  refine h p e (headSpec (am_w y) (am_rm y)).room s m _ below meth c D ad ca tys B0 0 0 _ ⟨hx, hb, hml, hown, fun w hw => hts w (List.mem_cons_of_mem _ hw), hK, hTY, hB, Nat.le_refl _, Nat.le_refl _, Nat.zero_le _, Nat.zero_le _, fun q => absurd q (by omega)⟩ ?_ s.heap [] _ (am_ent hn) hP hD va_S.rf
  intro r μ' H locs pc' ls hq hP hD hS hrt
  match r, hq, hrt with
  | none, hq, hrt => exact W.vret hx hb (hr.trans hrt.2) (fun t ht hW => ⟨⟨none, μ', rfl, hq, by rw [ht]; exact hP, hD⟩, hS.F ht⟩) hS.2.2 hrt.1 hlocks
  | some (.inl z), hq, hrt =>
    rcases hrt.2 with q | ⟨q, hz⟩
    · exact W.iret (v := Int32.ofInt z) hx hb (hr.trans q) (fun t ht hW => ⟨⟨some (.inl z), μ', rfl, hq, by rw [ht]; exact hP, hD⟩, hS.F ht⟩) hS.2.2 hrt.1 hlocks
    · exact W.zret (v := Int32.ofInt z) hx hb (hr.trans q) (am_nz hz) (fun t ht hW => ⟨⟨some (.inl z), μ', rfl, hq, by rw [ht]; exact hP, hD⟩, hS.F ht⟩) hS.2.2 hrt.1 hlocks
  | some (.inr (.inl z)), hq, hrt => exact W.lret (v := Int64.ofInt z) hx hb (hr.trans hrt.2) (fun t ht hW => ⟨⟨some (.inr (.inl z)), μ', rfl, hq, by rw [ht]; exact hP, hD⟩, hS.F ht⟩) hS.2.2 hrt.1 hlocks
theorem am_Does.mono {l : Launch} {y : Nat} {args : List am_V} {μ : am_N} {Q Q' : Option am_V → am_N → Prop} (h : am_Does l y args μ Q) (hq : ∀ r μ', Q r μ' → Q' r μ') : am_Does l y args μ Q' := by
  intro D ad ca tys B0 hTY p e ha hc hk s m args' below hf hfit hheap happ
  obtain ⟨t, o, h1, h2, h3, h4⟩ := h D ad ca tys B0 hTY p e ha hc hk s m args' below hf hfit hheap happ
  refine ⟨t, o, h1, h2, h3, ?_⟩
  obtain ⟨⟨⟨r, μ', e1, e2, e3⟩, e4⟩, e5⟩ := h4
  exact ⟨⟨⟨r, μ', e1, hq _ _ e2, e3⟩, e4⟩, e5⟩
def am_ok (y : Nat) (cd : Nat → am_I) : Prop := ∀ pc, (cd pc).2.1 = 99 ∨ am_chk y pc (cd pc) = true
theorem am_ok_of {y N : Nat} {cd' : Nat → am_I} (h : (List.range N).all (fun pc => Nat.beq (cd' pc).2.1 99 || am_chk y pc (cd' pc)) = true) : am_ok y (fun pc => bif Nat.blt pc N then cd' pc else am_bad) := by
  intro pc
  show (bif Nat.blt pc N then cd' pc else am_bad).2.1 = 99 ∨ am_chk y pc (bif Nat.blt pc N then cd' pc else am_bad) = true
  cases hb : Nat.blt pc N with
  | false => exact Or.inl rfl
  | true =>
    have hlt : pc < N := Nat.le_of_ble_eq_true hb
    have q := List.all_eq_true.mp h pc (List.mem_range.mpr hlt)
    rcases Bool.or_eq_true_iff.mp q with q | q
    · exact Or.inl (Nat.eq_of_beq_eq_true q)
    · exact Or.inr q
def am_wp (l : Launch) (L : Nat) (xs : Nat → Int) (y : Nat) (Q : Option am_V → am_N → Prop) (cd : Nat → am_I) (ct : Nat → Bool) : Nat → Nat → List (Option am_V) → List am_V → am_N → Prop
  | 0, pc, lv, st, μ => True ∧ am_AW l L xs y Q pc lv st μ
  | n + 1, pc, lv, st, μ => match ct pc with
    | true => True ∧ am_AW l L xs y Q pc lv st μ
    | false => am_stp l L xs y Q (am_wp l L xs y Q cd ct n) (cd pc) lv st μ
theorem am_99 {l : Launch} {L : Nat} {xs : Nat → Int} {y : Nat} {Q : Option am_V → am_N → Prop} {K : Nat → List (Option am_V) → List am_V → am_N → Prop} {lv : List (Option am_V)} {st : List am_V} {μ : am_N} {x : am_I} (hx : x.2.1 = 99) (h : am_stp l L xs y Q K x lv st μ) : False := by
  obtain ⟨nx, op, a, b, c, z, ts⟩ := x
  have e : op = 99 := hx
  subst e
  exact h
theorem am_wp_ok {l : Launch} {L : Nat} {xs : Nat → Int} {y : Nat} {Q : Option am_V → am_N → Prop} {cd : Nat → am_I} {ct : Nat → Bool} (hok : am_ok y cd) : ∀ (n pc : Nat) (lv : List (Option am_V)) (st : List am_V) (μ : am_N), am_wp l L xs y Q cd ct n pc lv st μ → am_AW l L xs y Q pc lv st μ
  | 0, _, _, _, _, h => h.2
  | n + 1, pc, lv, st, μ, h => by
    unfold am_wp at h
    cases hc : ct pc with
    | true => rw [hc] at h; exact h.2
    | false =>
      rw [hc] at h
      rcases hok pc with q | q
      · exact (am_99 q h).elim
      · exact am_stp_ok (fun pc lv st μ hk => am_wp_ok hok n pc lv st μ hk) q h
/-- from here on, by at most n steps, stopping where ct says so (not at the first) -/
theorem am_go {l : Launch} {L : Nat} {xs : Nat → Int} {y : Nat} {Q : Option am_V → am_N → Prop} {cd : Nat → am_I} {ct : Nat → Bool} {pc : Nat} {lv : List (Option am_V)} {st : List am_V} {μ : am_N} (hok : am_ok y cd) (n : Nat) (h : am_stp l L xs y Q (am_wp l L xs y Q cd ct n) (cd pc) lv st μ) : am_AW l L xs y Q pc lv st μ := by
  rcases hok pc with q | q
  · exact (am_99 q h).elim
  · exact am_stp_ok (fun pc lv st μ hk => am_wp_ok hok n pc lv st μ hk) q h
/-- what is known of Q may grow -/
theorem am_AW.mono {l : Launch} {L : Nat} {xs : Nat → Int} {y : Nat} {Q Q' : Option am_V → am_N → Prop} {pc : Nat} {lv : List (Option am_V)} {st : List am_V} {μ : am_N} (h : am_AW l L xs y Q pc lv st μ) (hq : ∀ r μ', Q r μ' → Q' r μ') : am_AW l L xs y Q' pc lv st μ :=
  fun p e R s m args below meth c D ad ca tys B0 cells slots Qf E hret => h p e R s m args below meth c D ad ca tys B0 cells slots Qf E (fun r μ' H locs pc' ls hr => hret r μ' H locs pc' ls (hq _ _ hr))
/-! a quick decoder, and that it tells what the machine reads -/
theorem rl_b {α β : Type} (r : Decoder α) (f : α → Decoder β) (B : ByteArray) (p : Nat) : (r >>= f : Decoder β) B p = Except.bind (r B p) (fun v => f v.1 B v.2) := by
  first
    | rfl
    | (show Except.bind (r B p) _ = _; cases r B p <;> rfl)
theorem rl_m {α β : Type} (g : α → β) (r : Decoder α) (B : ByteArray) (p : Nat) : (g <$> r : Decoder β) B p = Except.bind (r B p) (fun v => .ok (g v.1, v.2)) := by
  first
    | rfl
    | (show Except.bind (r B p) _ = _; cases r B p <;> rfl)
    | (cases h : r B p with
       | error e => (simp only [Functor.map, ReaderT.bind, StateT.map, bind, Except.bind, h]; done)
       | ok v => (simp only [Functor.map, ReaderT.bind, StateT.map, bind, Except.bind, h]; rfl))
theorem rl_u (B : ByteArray) (p : Nat) : (Reader.u1 : Decoder Nat) B p = if h : p < B.size then .ok ((B[p]'h).toNat, p + 1) else .error (HasTruncated.truncated p) := by
  by_cases h : p < B.size
  · rw [dif_pos h]
    first
      | (show (dite (p < B.size) _ _ : Decoder Nat) B p = _; rw [dif_pos h]; rfl)
      | (unfold Reader.u1; simp only [bind, ReaderT.bind, StateT.bind, Except.bind, read, readThe, MonadReaderOf.read, ReaderT.read, get, getThe, MonadStateOf.get, StateT.get, liftM, monadLift, MonadLift.monadLift, pure, StateT.pure, Except.pure, ReaderT.pure]; rw [dif_pos h]; rfl)
  · rw [dif_neg h]
    first
      | (show (dite (p < B.size) _ _ : Decoder Nat) B p = _; rw [dif_neg h]; rfl)
      | (unfold Reader.u1; simp only [bind, ReaderT.bind, StateT.bind, Except.bind, read, readThe, MonadReaderOf.read, ReaderT.read, get, getThe, MonadStateOf.get, StateT.get, liftM, monadLift, MonadLift.monadLift, pure, StateT.pure, Except.pure, ReaderT.pure]; rw [dif_neg h]; rfl)
theorem fr_t {l : List UInt8} {p : Nat} {x : UInt8} {r : List UInt8} (h : l.drop p = x :: r) : l.drop (p + 1) = r := by
  have hp : p < l.length := by
    by_cases q : p < l.length
    · exact q
    · rw [List.drop_eq_nil_of_le (by omega)] at h
      cases h
  rw [List.drop_eq_getElem_cons hp] at h
  exact (List.cons.inj h).2
theorem fr_u {B : ByteArray} {p : Nat} {x : UInt8} {r : List UInt8} (h : B.data.toList.drop p = x :: r) : (Reader.u1 : Decoder Nat) B p = .ok (x.toNat, p + 1) := by
  obtain ⟨⟨b⟩⟩ := B
  have h : b.drop p = x :: r := h
  have hp : p < b.length := by
    by_cases q : p < b.length
    · exact q
    · rw [List.drop_eq_nil_of_le (by omega)] at h
      cases h
  have hs : p < (ByteArray.mk ⟨b⟩).size := hp
  rw [rl_u, dif_pos hs]
  rw [List.drop_eq_getElem_cons hp] at h
  have e : b[p]'hp = x := (List.cons.inj h).1
  show Except.ok ((b[p]'hp).toNat, p + 1) = Except.ok (x.toNat, p + 1)
  rw [e]
theorem fr_b {α β : Type} {r : Decoder α} {f : α → Decoder β} {B : ByteArray} {p : Nat} {v : α} {q : Nat} (h : r B p = .ok (v, q)) : (r >>= f : Decoder β) B p = f v B q := by
  rw [rl_b, h]
  rfl
theorem fr_m {α β : Type} {g : α → β} {r : Decoder α} {B : ByteArray} {p : Nat} {v : α} {q : Nat} (h : r B p = .ok (v, q)) : (g <$> r : Decoder β) B p = .ok (g v, q) := by
  rw [rl_m, h]
  rfl
theorem fr_u2 {B : ByteArray} {p : Nat} {y z : UInt8} {r : List UInt8} (h : B.data.toList.drop p = y :: z :: r) : (Reader.u2 : Decoder Nat) B p = .ok (y.toNat * 256 + z.toNat, p + 1 + 1) := by
  show (Reader.u1 >>= fun hi => Reader.u1 >>= fun lo => pure (hi * 256 + lo) : Decoder Nat) B p = _
  rw [fr_b (fr_u h), fr_b (fr_u (fr_t h))]
  rfl
def fs_0 (i : Instr) (_ : List UInt8) : Option (Instr × Nat) := some (i, 1)
def fs_1 (g : Nat → Instr) (r : List UInt8) : Option (Instr × Nat) := match r with
  | y :: _ => some (g y.toNat, 2)
  | [] => none
def fs_2 (g : Nat → Instr) (r : List UInt8) : Option (Instr × Nat) := match r with
  | y :: z :: _ => some (g (y.toNat * 256 + z.toNat), 3)
  | _ => none
def fs_s1 (g : Int → Instr) (r : List UInt8) : Option (Instr × Nat) := match r with
  | y :: _ => some (g (Reader.signed 8 y.toNat), 2)
  | [] => none
def fs_s2 (g : Int → Instr) (r : List UInt8) : Option (Instr × Nat) := match r with
  | y :: z :: _ => some (g (Reader.signed 16 (y.toNat * 256 + z.toNat)), 3)
  | _ => none
def fs_i (r : List UInt8) : Option (Instr × Nat) := match r with
  | y :: z :: _ => some (.iinc y.toNat (Reader.signed 8 z.toNat), 3)
  | _ => none
theorem fg_1 {g : Nat → Instr} {B : ByteArray} {p : Nat} {y : UInt8} {r : List UInt8} (h : B.data.toList.drop p = y :: r) : (Reader.u1 >>= fun a => pure (g a) : Decoder Instr) B p = .ok (g y.toNat, p + 1) := by
  rw [fr_b (fr_u h)]
  rfl
theorem fg_2 {g : Nat → Instr} {B : ByteArray} {p : Nat} {y z : UInt8} {r : List UInt8} (h : B.data.toList.drop p = y :: z :: r) : (Reader.u2 >>= fun a => pure (g a) : Decoder Instr) B p = .ok (g (y.toNat * 256 + z.toNat), p + 1 + 1) := by
  rw [fr_b (fr_u2 h)]
  rfl
theorem fg_s1 {g : Int → Instr} {B : ByteArray} {p : Nat} {y : UInt8} {r : List UInt8} (h : B.data.toList.drop p = y :: r) : (Reader.s1 >>= fun a => pure (g a) : Decoder Instr) B p = .ok (g (Reader.signed 8 y.toNat), p + 1) := by
  rw [fr_b (show (Reader.s1 : Decoder Int) B p = .ok (Reader.signed 8 y.toNat, p + 1) from fr_m (fr_u h))]
  rfl
theorem fg_s2 {g : Int → Instr} {B : ByteArray} {p : Nat} {y z : UInt8} {r : List UInt8} (h : B.data.toList.drop p = y :: z :: r) : (Reader.s2 >>= fun a => pure (g a) : Decoder Instr) B p = .ok (g (Reader.signed 16 (y.toNat * 256 + z.toNat)), p + 1 + 1) := by
  rw [fr_b (show (Reader.s2 : Decoder Int) B p = .ok (Reader.signed 16 (y.toNat * 256 + z.toNat), p + 1 + 1) from fr_m (fr_u2 h))]
  rfl
theorem fg_i {B : ByteArray} {p : Nat} {y z : UInt8} {r : List UInt8} (h : B.data.toList.drop p = y :: z :: r) : (Reader.u1 >>= fun a => Reader.s1 >>= fun b => pure (.iinc a b) : Decoder Instr) B p = .ok (.iinc y.toNat (Reader.signed 8 z.toNat), p + 1 + 1) := by
  rw [fr_b (fr_u h), fr_b (show (Reader.s1 : Decoder Int) B (p + 1) = .ok (Reader.signed 8 z.toNat, p + 1 + 1) from fr_m (fr_u (fr_t h)))]
  rfl
theorem fd_if {α : Type} {b : Bool} {u v : Option α} {w : α} (h : (bif b then u else v) = some w) : (b = true ∧ u = some w) ∨ v = some w := by
  cases b
  · exact Or.inr h
  · exact Or.inl ⟨rfl, h⟩
theorem fk_42 {B : ByteArray} {pc p : Nat} {x : UInt8} {r : List UInt8} {w : Instr × Nat} (h : B.data.toList.drop p = x :: r) (e : Nat.beq x.toNat 42 = true) (hw : fs_0 (.aload_n 0) r = some w) : Decoder.instr pc B p = .ok (w.1, p + w.2) := by
  have a := fr_u h
  rw [Nat.eq_of_beq_eq_true e] at a
  obtain rfl := Option.some.inj hw
  exact (fr_b a).trans rfl
theorem fk_180 {B : ByteArray} {pc p : Nat} {x : UInt8} {r : List UInt8} {w : Instr × Nat} (h : B.data.toList.drop p = x :: r) (e : Nat.beq x.toNat 180 = true) (hw : fs_2 .getfield r = some w) : Decoder.instr pc B p = .ok (w.1, p + w.2) := by
  have a := fr_u h
  rw [Nat.eq_of_beq_eq_true e] at a
  cases r with
  | nil => cases hw
  | cons y r => cases r with
    | nil => cases hw
    | cons z r =>
      obtain rfl := Option.some.inj hw
      exact (fr_b a).trans (fg_2 (g := .getfield) (fr_t h))
theorem fk_182 {B : ByteArray} {pc p : Nat} {x : UInt8} {r : List UInt8} {w : Instr × Nat} (h : B.data.toList.drop p = x :: r) (e : Nat.beq x.toNat 182 = true) (hw : fs_2 .invokevirtual r = some w) : Decoder.instr pc B p = .ok (w.1, p + w.2) := by
  have a := fr_u h
  rw [Nat.eq_of_beq_eq_true e] at a
  cases r with
  | nil => cases hw
  | cons y r => cases r with
    | nil => cases hw
    | cons z r =>
      obtain rfl := Option.some.inj hw
      exact (fr_b a).trans (fg_2 (g := .invokevirtual) (fr_t h))
theorem fk_27 {B : ByteArray} {pc p : Nat} {x : UInt8} {r : List UInt8} {w : Instr × Nat} (h : B.data.toList.drop p = x :: r) (e : Nat.beq x.toNat 27 = true) (hw : fs_0 (.iload_n 1) r = some w) : Decoder.instr pc B p = .ok (w.1, p + w.2) := by
  have a := fr_u h
  rw [Nat.eq_of_beq_eq_true e] at a
  obtain rfl := Option.some.inj hw
  exact (fr_b a).trans rfl
theorem fk_28 {B : ByteArray} {pc p : Nat} {x : UInt8} {r : List UInt8} {w : Instr × Nat} (h : B.data.toList.drop p = x :: r) (e : Nat.beq x.toNat 28 = true) (hw : fs_0 (.iload_n 2) r = some w) : Decoder.instr pc B p = .ok (w.1, p + w.2) := by
  have a := fr_u h
  rw [Nat.eq_of_beq_eq_true e] at a
  obtain rfl := Option.some.inj hw
  exact (fr_b a).trans rfl
theorem fk_172 {B : ByteArray} {pc p : Nat} {x : UInt8} {r : List UInt8} {w : Instr × Nat} (h : B.data.toList.drop p = x :: r) (e : Nat.beq x.toNat 172 = true) (hw : fs_0 (.ireturn) r = some w) : Decoder.instr pc B p = .ok (w.1, p + w.2) := by
  have a := fr_u h
  rw [Nat.eq_of_beq_eq_true e] at a
  obtain rfl := Option.some.inj hw
  exact (fr_b a).trans rfl
theorem fk_21 {B : ByteArray} {pc p : Nat} {x : UInt8} {r : List UInt8} {w : Instr × Nat} (h : B.data.toList.drop p = x :: r) (e : Nat.beq x.toNat 21 = true) (hw : fs_1 .iload r = some w) : Decoder.instr pc B p = .ok (w.1, p + w.2) := by
  have a := fr_u h
  rw [Nat.eq_of_beq_eq_true e] at a
  cases r with
  | nil => cases hw
  | cons y r =>
    obtain rfl := Option.some.inj hw
    exact (fr_b a).trans (fg_1 (g := .iload) (fr_t h))
theorem fk_29 {B : ByteArray} {pc p : Nat} {x : UInt8} {r : List UInt8} {w : Instr × Nat} (h : B.data.toList.drop p = x :: r) (e : Nat.beq x.toNat 29 = true) (hw : fs_0 (.iload_n 3) r = some w) : Decoder.instr pc B p = .ok (w.1, p + w.2) := by
  have a := fr_u h
  rw [Nat.eq_of_beq_eq_true e] at a
  obtain rfl := Option.some.inj hw
  exact (fr_b a).trans rfl
theorem fk_167 {B : ByteArray} {pc p : Nat} {x : UInt8} {r : List UInt8} {w : Instr × Nat} (h : B.data.toList.drop p = x :: r) (e : Nat.beq x.toNat 167 = true) (hw : fs_s2 .goto r = some w) : Decoder.instr pc B p = .ok (w.1, p + w.2) := by
  have a := fr_u h
  rw [Nat.eq_of_beq_eq_true e] at a
  cases r with
  | nil => cases hw
  | cons y r => cases r with
    | nil => cases hw
    | cons z r =>
      obtain rfl := Option.some.inj hw
      exact (fr_b a).trans (fg_s2 (g := .goto) (fr_t h))
theorem fk_4 {B : ByteArray} {pc p : Nat} {x : UInt8} {r : List UInt8} {w : Instr × Nat} (h : B.data.toList.drop p = x :: r) (e : Nat.beq x.toNat 4 = true) (hw : fs_0 (.iconst 1) r = some w) : Decoder.instr pc B p = .ok (w.1, p + w.2) := by
  have a := fr_u h
  rw [Nat.eq_of_beq_eq_true e] at a
  obtain rfl := Option.some.inj hw
  exact (fr_b a).trans rfl
theorem fk_3 {B : ByteArray} {pc p : Nat} {x : UInt8} {r : List UInt8} {w : Instr × Nat} (h : B.data.toList.drop p = x :: r) (e : Nat.beq x.toNat 3 = true) (hw : fs_0 (.iconst 0) r = some w) : Decoder.instr pc B p = .ok (w.1, p + w.2) := by
  have a := fr_u h
  rw [Nat.eq_of_beq_eq_true e] at a
  obtain rfl := Option.some.inj hw
  exact (fr_b a).trans rfl
theorem fk_46 {B : ByteArray} {pc p : Nat} {x : UInt8} {r : List UInt8} {w : Instr × Nat} (h : B.data.toList.drop p = x :: r) (e : Nat.beq x.toNat 46 = true) (hw : fs_0 (.iaload) r = some w) : Decoder.instr pc B p = .ok (w.1, p + w.2) := by
  have a := fr_u h
  rw [Nat.eq_of_beq_eq_true e] at a
  obtain rfl := Option.some.inj hw
  exact (fr_b a).trans rfl
theorem fk_16 {B : ByteArray} {pc p : Nat} {x : UInt8} {r : List UInt8} {w : Instr × Nat} (h : B.data.toList.drop p = x :: r) (e : Nat.beq x.toNat 16 = true) (hw : fs_s1 .bipush r = some w) : Decoder.instr pc B p = .ok (w.1, p + w.2) := by
  have a := fr_u h
  rw [Nat.eq_of_beq_eq_true e] at a
  cases r with
  | nil => cases hw
  | cons y r =>
    obtain rfl := Option.some.inj hw
    exact (fr_b a).trans (fg_s1 (g := .bipush) (fr_t h))
theorem fk_96 {B : ByteArray} {pc p : Nat} {x : UInt8} {r : List UInt8} {w : Instr × Nat} (h : B.data.toList.drop p = x :: r) (e : Nat.beq x.toNat 96 = true) (hw : fs_0 (.iadd) r = some w) : Decoder.instr pc B p = .ok (w.1, p + w.2) := by
  have a := fr_u h
  rw [Nat.eq_of_beq_eq_true e] at a
  obtain rfl := Option.some.inj hw
  exact (fr_b a).trans rfl
theorem fk_54 {B : ByteArray} {pc p : Nat} {x : UInt8} {r : List UInt8} {w : Instr × Nat} (h : B.data.toList.drop p = x :: r) (e : Nat.beq x.toNat 54 = true) (hw : fs_1 .istore r = some w) : Decoder.instr pc B p = .ok (w.1, p + w.2) := by
  have a := fr_u h
  rw [Nat.eq_of_beq_eq_true e] at a
  cases r with
  | nil => cases hw
  | cons y r =>
    obtain rfl := Option.some.inj hw
    exact (fr_b a).trans (fg_1 (g := .istore) (fr_t h))
theorem fk_181 {B : ByteArray} {pc p : Nat} {x : UInt8} {r : List UInt8} {w : Instr × Nat} (h : B.data.toList.drop p = x :: r) (e : Nat.beq x.toNat 181 = true) (hw : fs_2 .putfield r = some w) : Decoder.instr pc B p = .ok (w.1, p + w.2) := by
  have a := fr_u h
  rw [Nat.eq_of_beq_eq_true e] at a
  cases r with
  | nil => cases hw
  | cons y r => cases r with
    | nil => cases hw
    | cons z r =>
      obtain rfl := Option.some.inj hw
      exact (fr_b a).trans (fg_2 (g := .putfield) (fr_t h))
theorem fk_162 {B : ByteArray} {pc p : Nat} {x : UInt8} {r : List UInt8} {w : Instr × Nat} (h : B.data.toList.drop p = x :: r) (e : Nat.beq x.toNat 162 = true) (hw : fs_s2 (.if_icmp .ge) r = some w) : Decoder.instr pc B p = .ok (w.1, p + w.2) := by
  have a := fr_u h
  rw [Nat.eq_of_beq_eq_true e] at a
  cases r with
  | nil => cases hw
  | cons y r => cases r with
    | nil => cases hw
    | cons z r =>
      obtain rfl := Option.some.inj hw
      exact (fr_b a).trans (fg_s2 (g := (.if_icmp .ge)) (fr_t h))
theorem fk_154 {B : ByteArray} {pc p : Nat} {x : UInt8} {r : List UInt8} {w : Instr × Nat} (h : B.data.toList.drop p = x :: r) (e : Nat.beq x.toNat 154 = true) (hw : fs_s2 (.ifCond .ne) r = some w) : Decoder.instr pc B p = .ok (w.1, p + w.2) := by
  have a := fr_u h
  rw [Nat.eq_of_beq_eq_true e] at a
  cases r with
  | nil => cases hw
  | cons y r => cases r with
    | nil => cases hw
    | cons z r =>
      obtain rfl := Option.some.inj hw
      exact (fr_b a).trans (fg_s2 (g := (.ifCond .ne)) (fr_t h))
theorem fk_132 {B : ByteArray} {pc p : Nat} {x : UInt8} {r : List UInt8} {w : Instr × Nat} (h : B.data.toList.drop p = x :: r) (e : Nat.beq x.toNat 132 = true) (hw : fs_i r = some w) : Decoder.instr pc B p = .ok (w.1, p + w.2) := by
  have a := fr_u h
  rw [Nat.eq_of_beq_eq_true e] at a
  cases r with
  | nil => cases hw
  | cons y r => cases r with
    | nil => cases hw
    | cons z r =>
      obtain rfl := Option.some.inj hw
      exact (fr_b a).trans (fg_i (fr_t h))
theorem fk_79 {B : ByteArray} {pc p : Nat} {x : UInt8} {r : List UInt8} {w : Instr × Nat} (h : B.data.toList.drop p = x :: r) (e : Nat.beq x.toNat 79 = true) (hw : fs_0 (.iastore) r = some w) : Decoder.instr pc B p = .ok (w.1, p + w.2) := by
  have a := fr_u h
  rw [Nat.eq_of_beq_eq_true e] at a
  obtain rfl := Option.some.inj hw
  exact (fr_b a).trans rfl
theorem fk_43 {B : ByteArray} {pc p : Nat} {x : UInt8} {r : List UInt8} {w : Instr × Nat} (h : B.data.toList.drop p = x :: r) (e : Nat.beq x.toNat 43 = true) (hw : fs_0 (.aload_n 1) r = some w) : Decoder.instr pc B p = .ok (w.1, p + w.2) := by
  have a := fr_u h
  rw [Nat.eq_of_beq_eq_true e] at a
  obtain rfl := Option.some.inj hw
  exact (fr_b a).trans rfl
theorem fk_5 {B : ByteArray} {pc p : Nat} {x : UInt8} {r : List UInt8} {w : Instr × Nat} (h : B.data.toList.drop p = x :: r) (e : Nat.beq x.toNat 5 = true) (hw : fs_0 (.iconst 2) r = some w) : Decoder.instr pc B p = .ok (w.1, p + w.2) := by
  have a := fr_u h
  rw [Nat.eq_of_beq_eq_true e] at a
  obtain rfl := Option.some.inj hw
  exact (fr_b a).trans rfl
theorem fk_61 {B : ByteArray} {pc p : Nat} {x : UInt8} {r : List UInt8} {w : Instr × Nat} (h : B.data.toList.drop p = x :: r) (e : Nat.beq x.toNat 61 = true) (hw : fs_0 (.istore_n 2) r = some w) : Decoder.instr pc B p = .ok (w.1, p + w.2) := by
  have a := fr_u h
  rw [Nat.eq_of_beq_eq_true e] at a
  obtain rfl := Option.some.inj hw
  exact (fr_b a).trans rfl
theorem fk_184 {B : ByteArray} {pc p : Nat} {x : UInt8} {r : List UInt8} {w : Instr × Nat} (h : B.data.toList.drop p = x :: r) (e : Nat.beq x.toNat 184 = true) (hw : fs_2 .invokestatic r = some w) : Decoder.instr pc B p = .ok (w.1, p + w.2) := by
  have a := fr_u h
  rw [Nat.eq_of_beq_eq_true e] at a
  cases r with
  | nil => cases hw
  | cons y r => cases r with
    | nil => cases hw
    | cons z r =>
      obtain rfl := Option.some.inj hw
      exact (fr_b a).trans (fg_2 (g := .invokestatic) (fr_t h))
theorem fk_153 {B : ByteArray} {pc p : Nat} {x : UInt8} {r : List UInt8} {w : Instr × Nat} (h : B.data.toList.drop p = x :: r) (e : Nat.beq x.toNat 153 = true) (hw : fs_s2 (.ifCond .eq) r = some w) : Decoder.instr pc B p = .ok (w.1, p + w.2) := by
  have a := fr_u h
  rw [Nat.eq_of_beq_eq_true e] at a
  cases r with
  | nil => cases hw
  | cons y r => cases r with
    | nil => cases hw
    | cons z r =>
      obtain rfl := Option.some.inj hw
      exact (fr_b a).trans (fg_s2 (g := (.ifCond .eq)) (fr_t h))
theorem fk_87 {B : ByteArray} {pc p : Nat} {x : UInt8} {r : List UInt8} {w : Instr × Nat} (h : B.data.toList.drop p = x :: r) (e : Nat.beq x.toNat 87 = true) (hw : fs_0 (.pop) r = some w) : Decoder.instr pc B p = .ok (w.1, p + w.2) := by
  have a := fr_u h
  rw [Nat.eq_of_beq_eq_true e] at a
  obtain rfl := Option.some.inj hw
  exact (fr_b a).trans rfl
theorem fk_60 {B : ByteArray} {pc p : Nat} {x : UInt8} {r : List UInt8} {w : Instr × Nat} (h : B.data.toList.drop p = x :: r) (e : Nat.beq x.toNat 60 = true) (hw : fs_0 (.istore_n 1) r = some w) : Decoder.instr pc B p = .ok (w.1, p + w.2) := by
  have a := fr_u h
  rw [Nat.eq_of_beq_eq_true e] at a
  obtain rfl := Option.some.inj hw
  exact (fr_b a).trans rfl
theorem fk_7 {B : ByteArray} {pc p : Nat} {x : UInt8} {r : List UInt8} {w : Instr × Nat} (h : B.data.toList.drop p = x :: r) (e : Nat.beq x.toNat 7 = true) (hw : fs_0 (.iconst 4) r = some w) : Decoder.instr pc B p = .ok (w.1, p + w.2) := by
  have a := fr_u h
  rw [Nat.eq_of_beq_eq_true e] at a
  obtain rfl := Option.some.inj hw
  exact (fr_b a).trans rfl
theorem fk_100 {B : ByteArray} {pc p : Nat} {x : UInt8} {r : List UInt8} {w : Instr × Nat} (h : B.data.toList.drop p = x :: r) (e : Nat.beq x.toNat 100 = true) (hw : fs_0 (.isub) r = some w) : Decoder.instr pc B p = .ok (w.1, p + w.2) := by
  have a := fr_u h
  rw [Nat.eq_of_beq_eq_true e] at a
  obtain rfl := Option.some.inj hw
  exact (fr_b a).trans rfl
theorem fk_160 {B : ByteArray} {pc p : Nat} {x : UInt8} {r : List UInt8} {w : Instr × Nat} (h : B.data.toList.drop p = x :: r) (e : Nat.beq x.toNat 160 = true) (hw : fs_s2 (.if_icmp .ne) r = some w) : Decoder.instr pc B p = .ok (w.1, p + w.2) := by
  have a := fr_u h
  rw [Nat.eq_of_beq_eq_true e] at a
  cases r with
  | nil => cases hw
  | cons y r => cases r with
    | nil => cases hw
    | cons z r =>
      obtain rfl := Option.some.inj hw
      exact (fr_b a).trans (fg_s2 (g := (.if_icmp .ne)) (fr_t h))
theorem fk_44 {B : ByteArray} {pc p : Nat} {x : UInt8} {r : List UInt8} {w : Instr × Nat} (h : B.data.toList.drop p = x :: r) (e : Nat.beq x.toNat 44 = true) (hw : fs_0 (.aload_n 2) r = some w) : Decoder.instr pc B p = .ok (w.1, p + w.2) := by
  have a := fr_u h
  rw [Nat.eq_of_beq_eq_true e] at a
  obtain rfl := Option.some.inj hw
  exact (fr_b a).trans rfl
theorem fk_2 {B : ByteArray} {pc p : Nat} {x : UInt8} {r : List UInt8} {w : Instr × Nat} (h : B.data.toList.drop p = x :: r) (e : Nat.beq x.toNat 2 = true) (hw : fs_0 (.iconst (-1)) r = some w) : Decoder.instr pc B p = .ok (w.1, p + w.2) := by
  have a := fr_u h
  rw [Nat.eq_of_beq_eq_true e] at a
  obtain rfl := Option.some.inj hw
  exact (fr_b a).trans rfl
theorem fk_104 {B : ByteArray} {pc p : Nat} {x : UInt8} {r : List UInt8} {w : Instr × Nat} (h : B.data.toList.drop p = x :: r) (e : Nat.beq x.toNat 104 = true) (hw : fs_0 (.imul) r = some w) : Decoder.instr pc B p = .ok (w.1, p + w.2) := by
  have a := fr_u h
  rw [Nat.eq_of_beq_eq_true e] at a
  obtain rfl := Option.some.inj hw
  exact (fr_b a).trans rfl
theorem fk_59 {B : ByteArray} {pc p : Nat} {x : UInt8} {r : List UInt8} {w : Instr × Nat} (h : B.data.toList.drop p = x :: r) (e : Nat.beq x.toNat 59 = true) (hw : fs_0 (.istore_n 0) r = some w) : Decoder.instr pc B p = .ok (w.1, p + w.2) := by
  have a := fr_u h
  rw [Nat.eq_of_beq_eq_true e] at a
  obtain rfl := Option.some.inj hw
  exact (fr_b a).trans rfl
theorem fk_6 {B : ByteArray} {pc p : Nat} {x : UInt8} {r : List UInt8} {w : Instr × Nat} (h : B.data.toList.drop p = x :: r) (e : Nat.beq x.toNat 6 = true) (hw : fs_0 (.iconst 3) r = some w) : Decoder.instr pc B p = .ok (w.1, p + w.2) := by
  have a := fr_u h
  rw [Nat.eq_of_beq_eq_true e] at a
  obtain rfl := Option.some.inj hw
  exact (fr_b a).trans rfl
theorem fk_89 {B : ByteArray} {pc p : Nat} {x : UInt8} {r : List UInt8} {w : Instr × Nat} (h : B.data.toList.drop p = x :: r) (e : Nat.beq x.toNat 89 = true) (hw : fs_0 (.dup) r = some w) : Decoder.instr pc B p = .ok (w.1, p + w.2) := by
  have a := fr_u h
  rw [Nat.eq_of_beq_eq_true e] at a
  obtain rfl := Option.some.inj hw
  exact (fr_b a).trans rfl
theorem fk_177 {B : ByteArray} {pc p : Nat} {x : UInt8} {r : List UInt8} {w : Instr × Nat} (h : B.data.toList.drop p = x :: r) (e : Nat.beq x.toNat 177 = true) (hw : fs_0 (.return_) r = some w) : Decoder.instr pc B p = .ok (w.1, p + w.2) := by
  have a := fr_u h
  rw [Nat.eq_of_beq_eq_true e] at a
  obtain rfl := Option.some.inj hw
  exact (fr_b a).trans rfl
theorem fk_159 {B : ByteArray} {pc p : Nat} {x : UInt8} {r : List UInt8} {w : Instr × Nat} (h : B.data.toList.drop p = x :: r) (e : Nat.beq x.toNat 159 = true) (hw : fs_s2 (.if_icmp .eq) r = some w) : Decoder.instr pc B p = .ok (w.1, p + w.2) := by
  have a := fr_u h
  rw [Nat.eq_of_beq_eq_true e] at a
  cases r with
  | nil => cases hw
  | cons y r => cases r with
    | nil => cases hw
    | cons z r =>
      obtain rfl := Option.some.inj hw
      exact (fr_b a).trans (fg_s2 (g := (.if_icmp .eq)) (fr_t h))
theorem fk_164 {B : ByteArray} {pc p : Nat} {x : UInt8} {r : List UInt8} {w : Instr × Nat} (h : B.data.toList.drop p = x :: r) (e : Nat.beq x.toNat 164 = true) (hw : fs_s2 (.if_icmp .le) r = some w) : Decoder.instr pc B p = .ok (w.1, p + w.2) := by
  have a := fr_u h
  rw [Nat.eq_of_beq_eq_true e] at a
  cases r with
  | nil => cases hw
  | cons y r => cases r with
    | nil => cases hw
    | cons z r =>
      obtain rfl := Option.some.inj hw
      exact (fr_b a).trans (fg_s2 (g := (.if_icmp .le)) (fr_t h))
theorem fk_173 {B : ByteArray} {pc p : Nat} {x : UInt8} {r : List UInt8} {w : Instr × Nat} (h : B.data.toList.drop p = x :: r) (e : Nat.beq x.toNat 173 = true) (hw : fs_0 (.lreturn) r = some w) : Decoder.instr pc B p = .ok (w.1, p + w.2) := by
  have a := fr_u h
  rw [Nat.eq_of_beq_eq_true e] at a
  obtain rfl := Option.some.inj hw
  exact (fr_b a).trans rfl
theorem fk_161 {B : ByteArray} {pc p : Nat} {x : UInt8} {r : List UInt8} {w : Instr × Nat} (h : B.data.toList.drop p = x :: r) (e : Nat.beq x.toNat 161 = true) (hw : fs_s2 (.if_icmp .lt) r = some w) : Decoder.instr pc B p = .ok (w.1, p + w.2) := by
  have a := fr_u h
  rw [Nat.eq_of_beq_eq_true e] at a
  cases r with
  | nil => cases hw
  | cons y r => cases r with
    | nil => cases hw
    | cons z r =>
      obtain rfl := Option.some.inj hw
      exact (fr_b a).trans (fg_s2 (g := (.if_icmp .lt)) (fr_t h))
theorem fk_163 {B : ByteArray} {pc p : Nat} {x : UInt8} {r : List UInt8} {w : Instr × Nat} (h : B.data.toList.drop p = x :: r) (e : Nat.beq x.toNat 163 = true) (hw : fs_s2 (.if_icmp .gt) r = some w) : Decoder.instr pc B p = .ok (w.1, p + w.2) := by
  have a := fr_u h
  rw [Nat.eq_of_beq_eq_true e] at a
  cases r with
  | nil => cases hw
  | cons y r => cases r with
    | nil => cases hw
    | cons z r =>
      obtain rfl := Option.some.inj hw
      exact (fr_b a).trans (fg_s2 (g := (.if_icmp .gt)) (fr_t h))
theorem fk_155 {B : ByteArray} {pc p : Nat} {x : UInt8} {r : List UInt8} {w : Instr × Nat} (h : B.data.toList.drop p = x :: r) (e : Nat.beq x.toNat 155 = true) (hw : fs_s2 (.ifCond .lt) r = some w) : Decoder.instr pc B p = .ok (w.1, p + w.2) := by
  have a := fr_u h
  rw [Nat.eq_of_beq_eq_true e] at a
  cases r with
  | nil => cases hw
  | cons y r => cases r with
    | nil => cases hw
    | cons z r =>
      obtain rfl := Option.some.inj hw
      exact (fr_b a).trans (fg_s2 (g := (.ifCond .lt)) (fr_t h))
theorem fk_108 {B : ByteArray} {pc p : Nat} {x : UInt8} {r : List UInt8} {w : Instr × Nat} (h : B.data.toList.drop p = x :: r) (e : Nat.beq x.toNat 108 = true) (hw : fs_0 (.idiv) r = some w) : Decoder.instr pc B p = .ok (w.1, p + w.2) := by
  have a := fr_u h
  rw [Nat.eq_of_beq_eq_true e] at a
  obtain rfl := Option.some.inj hw
  exact (fr_b a).trans rfl
theorem fk_156 {B : ByteArray} {pc p : Nat} {x : UInt8} {r : List UInt8} {w : Instr × Nat} (h : B.data.toList.drop p = x :: r) (e : Nat.beq x.toNat 156 = true) (hw : fs_s2 (.ifCond .ge) r = some w) : Decoder.instr pc B p = .ok (w.1, p + w.2) := by
  have a := fr_u h
  rw [Nat.eq_of_beq_eq_true e] at a
  cases r with
  | nil => cases hw
  | cons y r => cases r with
    | nil => cases hw
    | cons z r =>
      obtain rfl := Option.some.inj hw
      exact (fr_b a).trans (fg_s2 (g := (.ifCond .ge)) (fr_t h))
theorem fk_17 {B : ByteArray} {pc p : Nat} {x : UInt8} {r : List UInt8} {w : Instr × Nat} (h : B.data.toList.drop p = x :: r) (e : Nat.beq x.toNat 17 = true) (hw : fs_s2 .sipush r = some w) : Decoder.instr pc B p = .ok (w.1, p + w.2) := by
  have a := fr_u h
  rw [Nat.eq_of_beq_eq_true e] at a
  cases r with
  | nil => cases hw
  | cons y r => cases r with
    | nil => cases hw
    | cons z r =>
      obtain rfl := Option.some.inj hw
      exact (fr_b a).trans (fg_s2 (g := .sipush) (fr_t h))
theorem fk_133 {B : ByteArray} {pc p : Nat} {x : UInt8} {r : List UInt8} {w : Instr × Nat} (h : B.data.toList.drop p = x :: r) (e : Nat.beq x.toNat 133 = true) (hw : fs_0 (.i2l) r = some w) : Decoder.instr pc B p = .ok (w.1, p + w.2) := by
  have a := fr_u h
  rw [Nat.eq_of_beq_eq_true e] at a
  obtain rfl := Option.some.inj hw
  exact (fr_b a).trans rfl
theorem fk_26 {B : ByteArray} {pc p : Nat} {x : UInt8} {r : List UInt8} {w : Instr × Nat} (h : B.data.toList.drop p = x :: r) (e : Nat.beq x.toNat 26 = true) (hw : fs_0 (.iload_n 0) r = some w) : Decoder.instr pc B p = .ok (w.1, p + w.2) := by
  have a := fr_u h
  rw [Nat.eq_of_beq_eq_true e] at a
  obtain rfl := Option.some.inj hw
  exact (fr_b a).trans rfl
theorem fk_8 {B : ByteArray} {pc p : Nat} {x : UInt8} {r : List UInt8} {w : Instr × Nat} (h : B.data.toList.drop p = x :: r) (e : Nat.beq x.toNat 8 = true) (hw : fs_0 (.iconst 5) r = some w) : Decoder.instr pc B p = .ok (w.1, p + w.2) := by
  have a := fr_u h
  rw [Nat.eq_of_beq_eq_true e] at a
  obtain rfl := Option.some.inj hw
  exact (fr_b a).trans rfl
theorem fk_112 {B : ByteArray} {pc p : Nat} {x : UInt8} {r : List UInt8} {w : Instr × Nat} (h : B.data.toList.drop p = x :: r) (e : Nat.beq x.toNat 112 = true) (hw : fs_0 (.irem) r = some w) : Decoder.instr pc B p = .ok (w.1, p + w.2) := by
  have a := fr_u h
  rw [Nat.eq_of_beq_eq_true e] at a
  obtain rfl := Option.some.inj hw
  exact (fr_b a).trans rfl
theorem fk_22 {B : ByteArray} {pc p : Nat} {x : UInt8} {r : List UInt8} {w : Instr × Nat} (h : B.data.toList.drop p = x :: r) (e : Nat.beq x.toNat 22 = true) (hw : fs_1 .lload r = some w) : Decoder.instr pc B p = .ok (w.1, p + w.2) := by
  have a := fr_u h
  rw [Nat.eq_of_beq_eq_true e] at a
  cases r with
  | nil => cases hw
  | cons y r =>
    obtain rfl := Option.some.inj hw
    exact (fr_b a).trans (fg_1 (g := .lload) (fr_t h))
theorem fk_158 {B : ByteArray} {pc p : Nat} {x : UInt8} {r : List UInt8} {w : Instr × Nat} (h : B.data.toList.drop p = x :: r) (e : Nat.beq x.toNat 158 = true) (hw : fs_s2 (.ifCond .le) r = some w) : Decoder.instr pc B p = .ok (w.1, p + w.2) := by
  have a := fr_u h
  rw [Nat.eq_of_beq_eq_true e] at a
  cases r with
  | nil => cases hw
  | cons y r => cases r with
    | nil => cases hw
    | cons z r =>
      obtain rfl := Option.some.inj hw
      exact (fr_b a).trans (fg_s2 (g := (.ifCond .le)) (fr_t h))
theorem fk_55 {B : ByteArray} {pc p : Nat} {x : UInt8} {r : List UInt8} {w : Instr × Nat} (h : B.data.toList.drop p = x :: r) (e : Nat.beq x.toNat 55 = true) (hw : fs_1 .lstore r = some w) : Decoder.instr pc B p = .ok (w.1, p + w.2) := by
  have a := fr_u h
  rw [Nat.eq_of_beq_eq_true e] at a
  cases r with
  | nil => cases hw
  | cons y r =>
    obtain rfl := Option.some.inj hw
    exact (fr_b a).trans (fg_1 (g := .lstore) (fr_t h))
theorem fk_120 {B : ByteArray} {pc p : Nat} {x : UInt8} {r : List UInt8} {w : Instr × Nat} (h : B.data.toList.drop p = x :: r) (e : Nat.beq x.toNat 120 = true) (hw : fs_0 (.ishl) r = some w) : Decoder.instr pc B p = .ok (w.1, p + w.2) := by
  have a := fr_u h
  rw [Nat.eq_of_beq_eq_true e] at a
  obtain rfl := Option.some.inj hw
  exact (fr_b a).trans rfl
theorem fk_116 {B : ByteArray} {pc p : Nat} {x : UInt8} {r : List UInt8} {w : Instr × Nat} (h : B.data.toList.drop p = x :: r) (e : Nat.beq x.toNat 116 = true) (hw : fs_0 (.ineg) r = some w) : Decoder.instr pc B p = .ok (w.1, p + w.2) := by
  have a := fr_u h
  rw [Nat.eq_of_beq_eq_true e] at a
  obtain rfl := Option.some.inj hw
  exact (fr_b a).trans rfl
theorem fk_88 {B : ByteArray} {pc p : Nat} {x : UInt8} {r : List UInt8} {w : Instr × Nat} (h : B.data.toList.drop p = x :: r) (e : Nat.beq x.toNat 88 = true) (hw : fs_0 (.pop2) r = some w) : Decoder.instr pc B p = .ok (w.1, p + w.2) := by
  have a := fr_u h
  rw [Nat.eq_of_beq_eq_true e] at a
  obtain rfl := Option.some.inj hw
  exact (fr_b a).trans rfl
theorem fk_50 {B : ByteArray} {pc p : Nat} {x : UInt8} {r : List UInt8} {w : Instr × Nat} (h : B.data.toList.drop p = x :: r) (e : Nat.beq x.toNat 50 = true) (hw : fs_0 (.aaload) r = some w) : Decoder.instr pc B p = .ok (w.1, p + w.2) := by
  have a := fr_u h
  rw [Nat.eq_of_beq_eq_true e] at a
  obtain rfl := Option.some.inj hw
  exact (fr_b a).trans rfl
theorem fk_190 {B : ByteArray} {pc p : Nat} {x : UInt8} {r : List UInt8} {w : Instr × Nat} (h : B.data.toList.drop p = x :: r) (e : Nat.beq x.toNat 190 = true) (hw : fs_0 (.arraylength) r = some w) : Decoder.instr pc B p = .ok (w.1, p + w.2) := by
  have a := fr_u h
  rw [Nat.eq_of_beq_eq_true e] at a
  obtain rfl := Option.some.inj hw
  exact (fr_b a).trans rfl
theorem fk_126 {B : ByteArray} {pc p : Nat} {x : UInt8} {r : List UInt8} {w : Instr × Nat} (h : B.data.toList.drop p = x :: r) (e : Nat.beq x.toNat 126 = true) (hw : fs_0 (.iand) r = some w) : Decoder.instr pc B p = .ok (w.1, p + w.2) := by
  have a := fr_u h
  rw [Nat.eq_of_beq_eq_true e] at a
  obtain rfl := Option.some.inj hw
  exact (fr_b a).trans rfl
theorem fk_20 {B : ByteArray} {pc p : Nat} {x : UInt8} {r : List UInt8} {w : Instr × Nat} (h : B.data.toList.drop p = x :: r) (e : Nat.beq x.toNat 20 = true) (hw : fs_2 .ldc2_w r = some w) : Decoder.instr pc B p = .ok (w.1, p + w.2) := by
  have a := fr_u h
  rw [Nat.eq_of_beq_eq_true e] at a
  cases r with
  | nil => cases hw
  | cons y r => cases r with
    | nil => cases hw
    | cons z r =>
      obtain rfl := Option.some.inj hw
      exact (fr_b a).trans (fg_2 (g := .ldc2_w) (fr_t h))
theorem fk_130 {B : ByteArray} {pc p : Nat} {x : UInt8} {r : List UInt8} {w : Instr × Nat} (h : B.data.toList.drop p = x :: r) (e : Nat.beq x.toNat 130 = true) (hw : fs_0 (.ixor) r = some w) : Decoder.instr pc B p = .ok (w.1, p + w.2) := by
  have a := fr_u h
  rw [Nat.eq_of_beq_eq_true e] at a
  obtain rfl := Option.some.inj hw
  exact (fr_b a).trans rfl
theorem fk_122 {B : ByteArray} {pc p : Nat} {x : UInt8} {r : List UInt8} {w : Instr × Nat} (h : B.data.toList.drop p = x :: r) (e : Nat.beq x.toNat 122 = true) (hw : fs_0 (.ishr) r = some w) : Decoder.instr pc B p = .ok (w.1, p + w.2) := by
  have a := fr_u h
  rw [Nat.eq_of_beq_eq_true e] at a
  obtain rfl := Option.some.inj hw
  exact (fr_b a).trans rfl
theorem fk_92 {B : ByteArray} {pc p : Nat} {x : UInt8} {r : List UInt8} {w : Instr × Nat} (h : B.data.toList.drop p = x :: r) (e : Nat.beq x.toNat 92 = true) (hw : fs_0 (.dup2) r = some w) : Decoder.instr pc B p = .ok (w.1, p + w.2) := by
  have a := fr_u h
  rw [Nat.eq_of_beq_eq_true e] at a
  obtain rfl := Option.some.inj hw
  exact (fr_b a).trans rfl
theorem fk_128 {B : ByteArray} {pc p : Nat} {x : UInt8} {r : List UInt8} {w : Instr × Nat} (h : B.data.toList.drop p = x :: r) (e : Nat.beq x.toNat 128 = true) (hw : fs_0 (.ior) r = some w) : Decoder.instr pc B p = .ok (w.1, p + w.2) := by
  have a := fr_u h
  rw [Nat.eq_of_beq_eq_true e] at a
  obtain rfl := Option.some.inj hw
  exact (fr_b a).trans rfl
theorem fk_9 {B : ByteArray} {pc p : Nat} {x : UInt8} {r : List UInt8} {w : Instr × Nat} (h : B.data.toList.drop p = x :: r) (e : Nat.beq x.toNat 9 = true) (hw : fs_0 (.lconst 0) r = some w) : Decoder.instr pc B p = .ok (w.1, p + w.2) := by
  have a := fr_u h
  rw [Nat.eq_of_beq_eq_true e] at a
  obtain rfl := Option.some.inj hw
  exact (fr_b a).trans rfl
theorem fk_10 {B : ByteArray} {pc p : Nat} {x : UInt8} {r : List UInt8} {w : Instr × Nat} (h : B.data.toList.drop p = x :: r) (e : Nat.beq x.toNat 10 = true) (hw : fs_0 (.lconst 1) r = some w) : Decoder.instr pc B p = .ok (w.1, p + w.2) := by
  have a := fr_u h
  rw [Nat.eq_of_beq_eq_true e] at a
  obtain rfl := Option.some.inj hw
  exact (fr_b a).trans rfl
theorem fk_18 {B : ByteArray} {pc p : Nat} {x : UInt8} {r : List UInt8} {w : Instr × Nat} (h : B.data.toList.drop p = x :: r) (e : Nat.beq x.toNat 18 = true) (hw : fs_1 .ldc r = some w) : Decoder.instr pc B p = .ok (w.1, p + w.2) := by
  have a := fr_u h
  rw [Nat.eq_of_beq_eq_true e] at a
  cases r with
  | nil => cases hw
  | cons y r =>
    obtain rfl := Option.some.inj hw
    exact (fr_b a).trans (fg_1 (g := .ldc) (fr_t h))
theorem fk_19 {B : ByteArray} {pc p : Nat} {x : UInt8} {r : List UInt8} {w : Instr × Nat} (h : B.data.toList.drop p = x :: r) (e : Nat.beq x.toNat 19 = true) (hw : fs_2 .ldc_w r = some w) : Decoder.instr pc B p = .ok (w.1, p + w.2) := by
  have a := fr_u h
  rw [Nat.eq_of_beq_eq_true e] at a
  cases r with
  | nil => cases hw
  | cons y r => cases r with
    | nil => cases hw
    | cons z r =>
      obtain rfl := Option.some.inj hw
      exact (fr_b a).trans (fg_2 (g := .ldc_w) (fr_t h))
theorem fk_25 {B : ByteArray} {pc p : Nat} {x : UInt8} {r : List UInt8} {w : Instr × Nat} (h : B.data.toList.drop p = x :: r) (e : Nat.beq x.toNat 25 = true) (hw : fs_1 .aload r = some w) : Decoder.instr pc B p = .ok (w.1, p + w.2) := by
  have a := fr_u h
  rw [Nat.eq_of_beq_eq_true e] at a
  cases r with
  | nil => cases hw
  | cons y r =>
    obtain rfl := Option.some.inj hw
    exact (fr_b a).trans (fg_1 (g := .aload) (fr_t h))
theorem fk_30 {B : ByteArray} {pc p : Nat} {x : UInt8} {r : List UInt8} {w : Instr × Nat} (h : B.data.toList.drop p = x :: r) (e : Nat.beq x.toNat 30 = true) (hw : fs_0 (.lload_n 0) r = some w) : Decoder.instr pc B p = .ok (w.1, p + w.2) := by
  have a := fr_u h
  rw [Nat.eq_of_beq_eq_true e] at a
  obtain rfl := Option.some.inj hw
  exact (fr_b a).trans rfl
theorem fk_31 {B : ByteArray} {pc p : Nat} {x : UInt8} {r : List UInt8} {w : Instr × Nat} (h : B.data.toList.drop p = x :: r) (e : Nat.beq x.toNat 31 = true) (hw : fs_0 (.lload_n 1) r = some w) : Decoder.instr pc B p = .ok (w.1, p + w.2) := by
  have a := fr_u h
  rw [Nat.eq_of_beq_eq_true e] at a
  obtain rfl := Option.some.inj hw
  exact (fr_b a).trans rfl
theorem fk_32 {B : ByteArray} {pc p : Nat} {x : UInt8} {r : List UInt8} {w : Instr × Nat} (h : B.data.toList.drop p = x :: r) (e : Nat.beq x.toNat 32 = true) (hw : fs_0 (.lload_n 2) r = some w) : Decoder.instr pc B p = .ok (w.1, p + w.2) := by
  have a := fr_u h
  rw [Nat.eq_of_beq_eq_true e] at a
  obtain rfl := Option.some.inj hw
  exact (fr_b a).trans rfl
theorem fk_33 {B : ByteArray} {pc p : Nat} {x : UInt8} {r : List UInt8} {w : Instr × Nat} (h : B.data.toList.drop p = x :: r) (e : Nat.beq x.toNat 33 = true) (hw : fs_0 (.lload_n 3) r = some w) : Decoder.instr pc B p = .ok (w.1, p + w.2) := by
  have a := fr_u h
  rw [Nat.eq_of_beq_eq_true e] at a
  obtain rfl := Option.some.inj hw
  exact (fr_b a).trans rfl
theorem fk_45 {B : ByteArray} {pc p : Nat} {x : UInt8} {r : List UInt8} {w : Instr × Nat} (h : B.data.toList.drop p = x :: r) (e : Nat.beq x.toNat 45 = true) (hw : fs_0 (.aload_n 3) r = some w) : Decoder.instr pc B p = .ok (w.1, p + w.2) := by
  have a := fr_u h
  rw [Nat.eq_of_beq_eq_true e] at a
  obtain rfl := Option.some.inj hw
  exact (fr_b a).trans rfl
theorem fk_58 {B : ByteArray} {pc p : Nat} {x : UInt8} {r : List UInt8} {w : Instr × Nat} (h : B.data.toList.drop p = x :: r) (e : Nat.beq x.toNat 58 = true) (hw : fs_1 .astore r = some w) : Decoder.instr pc B p = .ok (w.1, p + w.2) := by
  have a := fr_u h
  rw [Nat.eq_of_beq_eq_true e] at a
  cases r with
  | nil => cases hw
  | cons y r =>
    obtain rfl := Option.some.inj hw
    exact (fr_b a).trans (fg_1 (g := .astore) (fr_t h))
theorem fk_62 {B : ByteArray} {pc p : Nat} {x : UInt8} {r : List UInt8} {w : Instr × Nat} (h : B.data.toList.drop p = x :: r) (e : Nat.beq x.toNat 62 = true) (hw : fs_0 (.istore_n 3) r = some w) : Decoder.instr pc B p = .ok (w.1, p + w.2) := by
  have a := fr_u h
  rw [Nat.eq_of_beq_eq_true e] at a
  obtain rfl := Option.some.inj hw
  exact (fr_b a).trans rfl
theorem fk_63 {B : ByteArray} {pc p : Nat} {x : UInt8} {r : List UInt8} {w : Instr × Nat} (h : B.data.toList.drop p = x :: r) (e : Nat.beq x.toNat 63 = true) (hw : fs_0 (.lstore_n 0) r = some w) : Decoder.instr pc B p = .ok (w.1, p + w.2) := by
  have a := fr_u h
  rw [Nat.eq_of_beq_eq_true e] at a
  obtain rfl := Option.some.inj hw
  exact (fr_b a).trans rfl
theorem fk_64 {B : ByteArray} {pc p : Nat} {x : UInt8} {r : List UInt8} {w : Instr × Nat} (h : B.data.toList.drop p = x :: r) (e : Nat.beq x.toNat 64 = true) (hw : fs_0 (.lstore_n 1) r = some w) : Decoder.instr pc B p = .ok (w.1, p + w.2) := by
  have a := fr_u h
  rw [Nat.eq_of_beq_eq_true e] at a
  obtain rfl := Option.some.inj hw
  exact (fr_b a).trans rfl
theorem fk_65 {B : ByteArray} {pc p : Nat} {x : UInt8} {r : List UInt8} {w : Instr × Nat} (h : B.data.toList.drop p = x :: r) (e : Nat.beq x.toNat 65 = true) (hw : fs_0 (.lstore_n 2) r = some w) : Decoder.instr pc B p = .ok (w.1, p + w.2) := by
  have a := fr_u h
  rw [Nat.eq_of_beq_eq_true e] at a
  obtain rfl := Option.some.inj hw
  exact (fr_b a).trans rfl
theorem fk_66 {B : ByteArray} {pc p : Nat} {x : UInt8} {r : List UInt8} {w : Instr × Nat} (h : B.data.toList.drop p = x :: r) (e : Nat.beq x.toNat 66 = true) (hw : fs_0 (.lstore_n 3) r = some w) : Decoder.instr pc B p = .ok (w.1, p + w.2) := by
  have a := fr_u h
  rw [Nat.eq_of_beq_eq_true e] at a
  obtain rfl := Option.some.inj hw
  exact (fr_b a).trans rfl
theorem fk_75 {B : ByteArray} {pc p : Nat} {x : UInt8} {r : List UInt8} {w : Instr × Nat} (h : B.data.toList.drop p = x :: r) (e : Nat.beq x.toNat 75 = true) (hw : fs_0 (.astore_n 0) r = some w) : Decoder.instr pc B p = .ok (w.1, p + w.2) := by
  have a := fr_u h
  rw [Nat.eq_of_beq_eq_true e] at a
  obtain rfl := Option.some.inj hw
  exact (fr_b a).trans rfl
theorem fk_76 {B : ByteArray} {pc p : Nat} {x : UInt8} {r : List UInt8} {w : Instr × Nat} (h : B.data.toList.drop p = x :: r) (e : Nat.beq x.toNat 76 = true) (hw : fs_0 (.astore_n 1) r = some w) : Decoder.instr pc B p = .ok (w.1, p + w.2) := by
  have a := fr_u h
  rw [Nat.eq_of_beq_eq_true e] at a
  obtain rfl := Option.some.inj hw
  exact (fr_b a).trans rfl
theorem fk_77 {B : ByteArray} {pc p : Nat} {x : UInt8} {r : List UInt8} {w : Instr × Nat} (h : B.data.toList.drop p = x :: r) (e : Nat.beq x.toNat 77 = true) (hw : fs_0 (.astore_n 2) r = some w) : Decoder.instr pc B p = .ok (w.1, p + w.2) := by
  have a := fr_u h
  rw [Nat.eq_of_beq_eq_true e] at a
  obtain rfl := Option.some.inj hw
  exact (fr_b a).trans rfl
theorem fk_78 {B : ByteArray} {pc p : Nat} {x : UInt8} {r : List UInt8} {w : Instr × Nat} (h : B.data.toList.drop p = x :: r) (e : Nat.beq x.toNat 78 = true) (hw : fs_0 (.astore_n 3) r = some w) : Decoder.instr pc B p = .ok (w.1, p + w.2) := by
  have a := fr_u h
  rw [Nat.eq_of_beq_eq_true e] at a
  obtain rfl := Option.some.inj hw
  exact (fr_b a).trans rfl
theorem fk_90 {B : ByteArray} {pc p : Nat} {x : UInt8} {r : List UInt8} {w : Instr × Nat} (h : B.data.toList.drop p = x :: r) (e : Nat.beq x.toNat 90 = true) (hw : fs_0 (.dup_x1) r = some w) : Decoder.instr pc B p = .ok (w.1, p + w.2) := by
  have a := fr_u h
  rw [Nat.eq_of_beq_eq_true e] at a
  obtain rfl := Option.some.inj hw
  exact (fr_b a).trans rfl
theorem fk_97 {B : ByteArray} {pc p : Nat} {x : UInt8} {r : List UInt8} {w : Instr × Nat} (h : B.data.toList.drop p = x :: r) (e : Nat.beq x.toNat 97 = true) (hw : fs_0 (.ladd) r = some w) : Decoder.instr pc B p = .ok (w.1, p + w.2) := by
  have a := fr_u h
  rw [Nat.eq_of_beq_eq_true e] at a
  obtain rfl := Option.some.inj hw
  exact (fr_b a).trans rfl
theorem fk_101 {B : ByteArray} {pc p : Nat} {x : UInt8} {r : List UInt8} {w : Instr × Nat} (h : B.data.toList.drop p = x :: r) (e : Nat.beq x.toNat 101 = true) (hw : fs_0 (.lsub) r = some w) : Decoder.instr pc B p = .ok (w.1, p + w.2) := by
  have a := fr_u h
  rw [Nat.eq_of_beq_eq_true e] at a
  obtain rfl := Option.some.inj hw
  exact (fr_b a).trans rfl
theorem fk_105 {B : ByteArray} {pc p : Nat} {x : UInt8} {r : List UInt8} {w : Instr × Nat} (h : B.data.toList.drop p = x :: r) (e : Nat.beq x.toNat 105 = true) (hw : fs_0 (.lmul) r = some w) : Decoder.instr pc B p = .ok (w.1, p + w.2) := by
  have a := fr_u h
  rw [Nat.eq_of_beq_eq_true e] at a
  obtain rfl := Option.some.inj hw
  exact (fr_b a).trans rfl
theorem fk_109 {B : ByteArray} {pc p : Nat} {x : UInt8} {r : List UInt8} {w : Instr × Nat} (h : B.data.toList.drop p = x :: r) (e : Nat.beq x.toNat 109 = true) (hw : fs_0 (.ldiv) r = some w) : Decoder.instr pc B p = .ok (w.1, p + w.2) := by
  have a := fr_u h
  rw [Nat.eq_of_beq_eq_true e] at a
  obtain rfl := Option.some.inj hw
  exact (fr_b a).trans rfl
theorem fk_113 {B : ByteArray} {pc p : Nat} {x : UInt8} {r : List UInt8} {w : Instr × Nat} (h : B.data.toList.drop p = x :: r) (e : Nat.beq x.toNat 113 = true) (hw : fs_0 (.lrem) r = some w) : Decoder.instr pc B p = .ok (w.1, p + w.2) := by
  have a := fr_u h
  rw [Nat.eq_of_beq_eq_true e] at a
  obtain rfl := Option.some.inj hw
  exact (fr_b a).trans rfl
theorem fk_148 {B : ByteArray} {pc p : Nat} {x : UInt8} {r : List UInt8} {w : Instr × Nat} (h : B.data.toList.drop p = x :: r) (e : Nat.beq x.toNat 148 = true) (hw : fs_0 (.lcmp) r = some w) : Decoder.instr pc B p = .ok (w.1, p + w.2) := by
  have a := fr_u h
  rw [Nat.eq_of_beq_eq_true e] at a
  obtain rfl := Option.some.inj hw
  exact (fr_b a).trans rfl
theorem fk_157 {B : ByteArray} {pc p : Nat} {x : UInt8} {r : List UInt8} {w : Instr × Nat} (h : B.data.toList.drop p = x :: r) (e : Nat.beq x.toNat 157 = true) (hw : fs_s2 (.ifCond .gt) r = some w) : Decoder.instr pc B p = .ok (w.1, p + w.2) := by
  have a := fr_u h
  rw [Nat.eq_of_beq_eq_true e] at a
  cases r with
  | nil => cases hw
  | cons y r => cases r with
    | nil => cases hw
    | cons z r =>
      obtain rfl := Option.some.inj hw
      exact (fr_b a).trans (fg_s2 (g := (.ifCond .gt)) (fr_t h))
def fd_c (op : Nat) (r : List UInt8) : Option (Instr × Nat) :=
  bif Nat.beq op 42 then fs_0 (.aload_n 0) r else
  bif Nat.beq op 180 then fs_2 .getfield r else
  bif Nat.beq op 182 then fs_2 .invokevirtual r else
  bif Nat.beq op 27 then fs_0 (.iload_n 1) r else
  bif Nat.beq op 28 then fs_0 (.iload_n 2) r else
  bif Nat.beq op 172 then fs_0 (.ireturn) r else
  bif Nat.beq op 21 then fs_1 .iload r else
  bif Nat.beq op 29 then fs_0 (.iload_n 3) r else
  bif Nat.beq op 167 then fs_s2 .goto r else
  bif Nat.beq op 4 then fs_0 (.iconst 1) r else
  bif Nat.beq op 3 then fs_0 (.iconst 0) r else
  bif Nat.beq op 46 then fs_0 (.iaload) r else
  bif Nat.beq op 16 then fs_s1 .bipush r else
  bif Nat.beq op 96 then fs_0 (.iadd) r else
  bif Nat.beq op 54 then fs_1 .istore r else
  bif Nat.beq op 181 then fs_2 .putfield r else
  bif Nat.beq op 162 then fs_s2 (.if_icmp .ge) r else
  bif Nat.beq op 154 then fs_s2 (.ifCond .ne) r else
  bif Nat.beq op 132 then fs_i r else
  bif Nat.beq op 79 then fs_0 (.iastore) r else
  bif Nat.beq op 43 then fs_0 (.aload_n 1) r else
  bif Nat.beq op 5 then fs_0 (.iconst 2) r else
  bif Nat.beq op 61 then fs_0 (.istore_n 2) r else
  bif Nat.beq op 184 then fs_2 .invokestatic r else
  bif Nat.beq op 153 then fs_s2 (.ifCond .eq) r else
  bif Nat.beq op 87 then fs_0 (.pop) r else
  bif Nat.beq op 60 then fs_0 (.istore_n 1) r else
  bif Nat.beq op 7 then fs_0 (.iconst 4) r else
  bif Nat.beq op 100 then fs_0 (.isub) r else
  bif Nat.beq op 160 then fs_s2 (.if_icmp .ne) r else
  bif Nat.beq op 44 then fs_0 (.aload_n 2) r else
  bif Nat.beq op 2 then fs_0 (.iconst (-1)) r else
  bif Nat.beq op 104 then fs_0 (.imul) r else
  bif Nat.beq op 59 then fs_0 (.istore_n 0) r else
  bif Nat.beq op 6 then fs_0 (.iconst 3) r else
  bif Nat.beq op 89 then fs_0 (.dup) r else
  bif Nat.beq op 177 then fs_0 (.return_) r else
  bif Nat.beq op 159 then fs_s2 (.if_icmp .eq) r else
  bif Nat.beq op 164 then fs_s2 (.if_icmp .le) r else
  bif Nat.beq op 173 then fs_0 (.lreturn) r else
  bif Nat.beq op 161 then fs_s2 (.if_icmp .lt) r else
  bif Nat.beq op 163 then fs_s2 (.if_icmp .gt) r else
  bif Nat.beq op 155 then fs_s2 (.ifCond .lt) r else
  bif Nat.beq op 108 then fs_0 (.idiv) r else
  bif Nat.beq op 156 then fs_s2 (.ifCond .ge) r else
  bif Nat.beq op 17 then fs_s2 .sipush r else
  bif Nat.beq op 133 then fs_0 (.i2l) r else
  bif Nat.beq op 26 then fs_0 (.iload_n 0) r else
  bif Nat.beq op 8 then fs_0 (.iconst 5) r else
  bif Nat.beq op 112 then fs_0 (.irem) r else
  bif Nat.beq op 22 then fs_1 .lload r else
  bif Nat.beq op 158 then fs_s2 (.ifCond .le) r else
  bif Nat.beq op 55 then fs_1 .lstore r else
  bif Nat.beq op 120 then fs_0 (.ishl) r else
  bif Nat.beq op 116 then fs_0 (.ineg) r else
  bif Nat.beq op 88 then fs_0 (.pop2) r else
  bif Nat.beq op 50 then fs_0 (.aaload) r else
  bif Nat.beq op 190 then fs_0 (.arraylength) r else
  bif Nat.beq op 126 then fs_0 (.iand) r else
  bif Nat.beq op 20 then fs_2 .ldc2_w r else
  bif Nat.beq op 130 then fs_0 (.ixor) r else
  bif Nat.beq op 122 then fs_0 (.ishr) r else
  bif Nat.beq op 92 then fs_0 (.dup2) r else
  bif Nat.beq op 128 then fs_0 (.ior) r else
  bif Nat.beq op 9 then fs_0 (.lconst 0) r else
  bif Nat.beq op 10 then fs_0 (.lconst 1) r else
  bif Nat.beq op 18 then fs_1 .ldc r else
  bif Nat.beq op 19 then fs_2 .ldc_w r else
  bif Nat.beq op 25 then fs_1 .aload r else
  bif Nat.beq op 30 then fs_0 (.lload_n 0) r else
  bif Nat.beq op 31 then fs_0 (.lload_n 1) r else
  bif Nat.beq op 32 then fs_0 (.lload_n 2) r else
  bif Nat.beq op 33 then fs_0 (.lload_n 3) r else
  bif Nat.beq op 45 then fs_0 (.aload_n 3) r else
  bif Nat.beq op 58 then fs_1 .astore r else
  bif Nat.beq op 62 then fs_0 (.istore_n 3) r else
  bif Nat.beq op 63 then fs_0 (.lstore_n 0) r else
  bif Nat.beq op 64 then fs_0 (.lstore_n 1) r else
  bif Nat.beq op 65 then fs_0 (.lstore_n 2) r else
  bif Nat.beq op 66 then fs_0 (.lstore_n 3) r else
  bif Nat.beq op 75 then fs_0 (.astore_n 0) r else
  bif Nat.beq op 76 then fs_0 (.astore_n 1) r else
  bif Nat.beq op 77 then fs_0 (.astore_n 2) r else
  bif Nat.beq op 78 then fs_0 (.astore_n 3) r else
  bif Nat.beq op 90 then fs_0 (.dup_x1) r else
  bif Nat.beq op 97 then fs_0 (.ladd) r else
  bif Nat.beq op 101 then fs_0 (.lsub) r else
  bif Nat.beq op 105 then fs_0 (.lmul) r else
  bif Nat.beq op 109 then fs_0 (.ldiv) r else
  bif Nat.beq op 113 then fs_0 (.lrem) r else
  bif Nat.beq op 148 then fs_0 (.lcmp) r else
  bif Nat.beq op 157 then fs_s2 (.ifCond .gt) r else
  none
theorem fd_ok {B : ByteArray} {pc p : Nat} {x : UInt8} {r : List UInt8} {w : Instr × Nat} (h : B.data.toList.drop p = x :: r) (hw : fd_c x.toNat r = some w) : Decoder.instr pc B p = .ok (w.1, p + w.2) := by
  unfold fd_c at hw
  rcases fd_if hw with ⟨e, q⟩ | hw
  · exact fk_42 h e q
  rcases fd_if hw with ⟨e, q⟩ | hw
  · exact fk_180 h e q
  rcases fd_if hw with ⟨e, q⟩ | hw
  · exact fk_182 h e q
  rcases fd_if hw with ⟨e, q⟩ | hw
  · exact fk_27 h e q
  rcases fd_if hw with ⟨e, q⟩ | hw
  · exact fk_28 h e q
  rcases fd_if hw with ⟨e, q⟩ | hw
  · exact fk_172 h e q
  rcases fd_if hw with ⟨e, q⟩ | hw
  · exact fk_21 h e q
  rcases fd_if hw with ⟨e, q⟩ | hw
  · exact fk_29 h e q
  rcases fd_if hw with ⟨e, q⟩ | hw
  · exact fk_167 h e q
  rcases fd_if hw with ⟨e, q⟩ | hw
  · exact fk_4 h e q
  rcases fd_if hw with ⟨e, q⟩ | hw
  · exact fk_3 h e q
  rcases fd_if hw with ⟨e, q⟩ | hw
  · exact fk_46 h e q
  rcases fd_if hw with ⟨e, q⟩ | hw
  · exact fk_16 h e q
  rcases fd_if hw with ⟨e, q⟩ | hw
  · exact fk_96 h e q
  rcases fd_if hw with ⟨e, q⟩ | hw
  · exact fk_54 h e q
  rcases fd_if hw with ⟨e, q⟩ | hw
  · exact fk_181 h e q
  rcases fd_if hw with ⟨e, q⟩ | hw
  · exact fk_162 h e q
  rcases fd_if hw with ⟨e, q⟩ | hw
  · exact fk_154 h e q
  rcases fd_if hw with ⟨e, q⟩ | hw
  · exact fk_132 h e q
  rcases fd_if hw with ⟨e, q⟩ | hw
  · exact fk_79 h e q
  rcases fd_if hw with ⟨e, q⟩ | hw
  · exact fk_43 h e q
  rcases fd_if hw with ⟨e, q⟩ | hw
  · exact fk_5 h e q
  rcases fd_if hw with ⟨e, q⟩ | hw
  · exact fk_61 h e q
  rcases fd_if hw with ⟨e, q⟩ | hw
  · exact fk_184 h e q
  rcases fd_if hw with ⟨e, q⟩ | hw
  · exact fk_153 h e q
  rcases fd_if hw with ⟨e, q⟩ | hw
  · exact fk_87 h e q
  rcases fd_if hw with ⟨e, q⟩ | hw
  · exact fk_60 h e q
  rcases fd_if hw with ⟨e, q⟩ | hw
  · exact fk_7 h e q
  rcases fd_if hw with ⟨e, q⟩ | hw
  · exact fk_100 h e q
  rcases fd_if hw with ⟨e, q⟩ | hw
  · exact fk_160 h e q
  rcases fd_if hw with ⟨e, q⟩ | hw
  · exact fk_44 h e q
  rcases fd_if hw with ⟨e, q⟩ | hw
  · exact fk_2 h e q
  rcases fd_if hw with ⟨e, q⟩ | hw
  · exact fk_104 h e q
  rcases fd_if hw with ⟨e, q⟩ | hw
  · exact fk_59 h e q
  rcases fd_if hw with ⟨e, q⟩ | hw
  · exact fk_6 h e q
  rcases fd_if hw with ⟨e, q⟩ | hw
  · exact fk_89 h e q
  rcases fd_if hw with ⟨e, q⟩ | hw
  · exact fk_177 h e q
  rcases fd_if hw with ⟨e, q⟩ | hw
  · exact fk_159 h e q
  rcases fd_if hw with ⟨e, q⟩ | hw
  · exact fk_164 h e q
  rcases fd_if hw with ⟨e, q⟩ | hw
  · exact fk_173 h e q
  rcases fd_if hw with ⟨e, q⟩ | hw
  · exact fk_161 h e q
  rcases fd_if hw with ⟨e, q⟩ | hw
  · exact fk_163 h e q
  rcases fd_if hw with ⟨e, q⟩ | hw
  · exact fk_155 h e q
  rcases fd_if hw with ⟨e, q⟩ | hw
  · exact fk_108 h e q
  rcases fd_if hw with ⟨e, q⟩ | hw
  · exact fk_156 h e q
  rcases fd_if hw with ⟨e, q⟩ | hw
  · exact fk_17 h e q
  rcases fd_if hw with ⟨e, q⟩ | hw
  · exact fk_133 h e q
  rcases fd_if hw with ⟨e, q⟩ | hw
  · exact fk_26 h e q
  rcases fd_if hw with ⟨e, q⟩ | hw
  · exact fk_8 h e q
  rcases fd_if hw with ⟨e, q⟩ | hw
  · exact fk_112 h e q
  rcases fd_if hw with ⟨e, q⟩ | hw
  · exact fk_22 h e q
  rcases fd_if hw with ⟨e, q⟩ | hw
  · exact fk_158 h e q
  rcases fd_if hw with ⟨e, q⟩ | hw
  · exact fk_55 h e q
  rcases fd_if hw with ⟨e, q⟩ | hw
  · exact fk_120 h e q
  rcases fd_if hw with ⟨e, q⟩ | hw
  · exact fk_116 h e q
  rcases fd_if hw with ⟨e, q⟩ | hw
  · exact fk_88 h e q
  rcases fd_if hw with ⟨e, q⟩ | hw
  · exact fk_50 h e q
  rcases fd_if hw with ⟨e, q⟩ | hw
  · exact fk_190 h e q
  rcases fd_if hw with ⟨e, q⟩ | hw
  · exact fk_126 h e q
  rcases fd_if hw with ⟨e, q⟩ | hw
  · exact fk_20 h e q
  rcases fd_if hw with ⟨e, q⟩ | hw
  · exact fk_130 h e q
  rcases fd_if hw with ⟨e, q⟩ | hw
  · exact fk_122 h e q
  rcases fd_if hw with ⟨e, q⟩ | hw
  · exact fk_92 h e q
  rcases fd_if hw with ⟨e, q⟩ | hw
  · exact fk_128 h e q
  rcases fd_if hw with ⟨e, q⟩ | hw
  · exact fk_9 h e q
  rcases fd_if hw with ⟨e, q⟩ | hw
  · exact fk_10 h e q
  rcases fd_if hw with ⟨e, q⟩ | hw
  · exact fk_18 h e q
  rcases fd_if hw with ⟨e, q⟩ | hw
  · exact fk_19 h e q
  rcases fd_if hw with ⟨e, q⟩ | hw
  · exact fk_25 h e q
  rcases fd_if hw with ⟨e, q⟩ | hw
  · exact fk_30 h e q
  rcases fd_if hw with ⟨e, q⟩ | hw
  · exact fk_31 h e q
  rcases fd_if hw with ⟨e, q⟩ | hw
  · exact fk_32 h e q
  rcases fd_if hw with ⟨e, q⟩ | hw
  · exact fk_33 h e q
  rcases fd_if hw with ⟨e, q⟩ | hw
  · exact fk_45 h e q
  rcases fd_if hw with ⟨e, q⟩ | hw
  · exact fk_58 h e q
  rcases fd_if hw with ⟨e, q⟩ | hw
  · exact fk_62 h e q
  rcases fd_if hw with ⟨e, q⟩ | hw
  · exact fk_63 h e q
  rcases fd_if hw with ⟨e, q⟩ | hw
  · exact fk_64 h e q
  rcases fd_if hw with ⟨e, q⟩ | hw
  · exact fk_65 h e q
  rcases fd_if hw with ⟨e, q⟩ | hw
  · exact fk_66 h e q
  rcases fd_if hw with ⟨e, q⟩ | hw
  · exact fk_75 h e q
  rcases fd_if hw with ⟨e, q⟩ | hw
  · exact fk_76 h e q
  rcases fd_if hw with ⟨e, q⟩ | hw
  · exact fk_77 h e q
  rcases fd_if hw with ⟨e, q⟩ | hw
  · exact fk_78 h e q
  rcases fd_if hw with ⟨e, q⟩ | hw
  · exact fk_90 h e q
  rcases fd_if hw with ⟨e, q⟩ | hw
  · exact fk_97 h e q
  rcases fd_if hw with ⟨e, q⟩ | hw
  · exact fk_101 h e q
  rcases fd_if hw with ⟨e, q⟩ | hw
  · exact fk_105 h e q
  rcases fd_if hw with ⟨e, q⟩ | hw
  · exact fk_109 h e q
  rcases fd_if hw with ⟨e, q⟩ | hw
  · exact fk_113 h e q
  rcases fd_if hw with ⟨e, q⟩ | hw
  · exact fk_148 h e q
  rcases fd_if hw with ⟨e, q⟩ | hw
  · exact fk_157 h e q
  cases hw
theorem fd_de {B : ByteArray} {pc : Nat} {x : UInt8} {r : List UInt8} {w : Instr × Nat} (h : B.data.toList.drop pc = x :: r) (hw : fd_c x.toNat r = some w) : decode B pc = .ok (w.1, w.2) := by
  have d1 : decode B pc = Except.bind (Decoder.instr pc B pc) (fun v => .ok (v.1, v.2 - pc)) := rfl
  rw [d1, fd_ok h hw]
  show Except.ok (w.1, pc + w.2 - pc) = Except.ok (w.1, w.2)
  rw [Nat.add_sub_cancel_left]
def am_s1 (y : Nat) (x : am_I) (pc : Nat) (o : Option (Instr × Nat)) : Bool := match o with
  | some (i, n) => (am_ln i == 0 || n == am_ln i) && am_ie (am_nrm y pc i) x
  | none => am_chk y pc x
def am_sc (y : Nat) (cd : Nat → am_I) : Nat → List UInt8 → Nat → Bool
  | 0, _, _ => true
  | f + 1, b, pc => match b with
    | [] => true
    | x :: r => (Nat.beq (cd pc).2.1 99 || am_s1 y (cd pc) pc (fd_c x.toNat r)) && am_sc y cd f r (pc + 1)
theorem am_s1_ok {y pc : Nat} {x : UInt8} {r : List UInt8} {c : am_I} (h : (am_bt y).data.toList.drop pc = x :: r) (q : am_s1 y c pc (fd_c x.toNat r) = true) : am_chk y pc c = true := by
  cases e : fd_c x.toNat r with
  | none => rw [e] at q; exact q
  | some w =>
    rw [e] at q
    unfold am_chk
    rw [fd_de h e]
    exact q
theorem am_sc_ok {y : Nat} {cd : Nat → am_I} : ∀ (f : Nat) (b : List UInt8) (pc : Nat), (am_bt y).data.toList.drop pc = b → am_sc y cd f b pc = true → ∀ j, pc ≤ j → j < pc + f → j < pc + b.length → (cd j).2.1 = 99 ∨ am_chk y j (cd j) = true
  | 0, b, pc, _, _, j, h1, h2, _ => absurd h2 (by omega)
  | f + 1, [], pc, _, _, j, h1, _, h3 => absurd h3 (by simp only [List.length_nil]; omega)
  | f + 1, x :: r, pc, hb, h, j, h1, h2, h3 => by
    have hh : ((Nat.beq (cd pc).2.1 99 || am_s1 y (cd pc) pc (fd_c x.toNat r)) && am_sc y cd f r (pc + 1)) = true := h
    rw [Bool.and_eq_true] at hh
    by_cases e : j = pc
    · subst e
      rcases Bool.or_eq_true_iff.mp hh.1 with q | q
      · exact Or.inl (Nat.eq_of_beq_eq_true q)
      · exact Or.inr (am_s1_ok hb q)
    · rw [List.length_cons] at h3
      exact am_sc_ok f r (pc + 1) (fr_t hb) hh.2 j (by omega) (by omega) (by omega)
def am_byl (y : Nat) : List UInt8 := (am_bt y).data.toList
theorem am_ok_ofF {y N : Nat} {cd' : Nat → am_I} (h : (Nat.ble N (am_byl y).length && am_sc y cd' N (am_byl y) 0) = true) : am_ok y (fun pc => bif Nat.blt pc N then cd' pc else am_bad) := by
  intro pc
  show (bif Nat.blt pc N then cd' pc else am_bad).2.1 = 99 ∨ am_chk y pc (bif Nat.blt pc N then cd' pc else am_bad) = true
  rw [Bool.and_eq_true] at h
  have hl := Nat.le_of_ble_eq_true h.1
  cases hb : Nat.blt pc N with
  | false => exact Or.inl rfl
  | true =>
    have hlt : pc < N := Nat.le_of_ble_eq_true hb
    exact am_sc_ok N (am_byl y) 0 rfl h.2 pc (Nat.zero_le _) (by omega) (by omega)
/-- a piece of a method: m bytes from byte n on -/
theorem am_pc {y n m : Nat} {cd' : Nat → am_I} (h : (Nat.ble (n + m) (am_byl y).length && am_sc y cd' m (List.drop n (am_byl y)) n) = true) : ∀ pc, n ≤ pc → pc < n + m → (cd' pc).2.1 = 99 ∨ am_chk y pc (cd' pc) = true := by
  intro pc h1 h2
  rw [Bool.and_eq_true] at h
  have hl := Nat.le_of_ble_eq_true h.1
  refine am_sc_ok m (List.drop n (am_byl y)) n rfl h.2 pc h1 h2 ?_
  rw [List.length_drop]
  omega
theorem am_ok_all {y N : Nat} {cd' : Nat → am_I} (h : ∀ pc, pc < N → (cd' pc).2.1 = 99 ∨ am_chk y pc (cd' pc) = true) : am_ok y (fun pc => bif Nat.blt pc N then cd' pc else am_bad) := by
  intro pc
  show (bif Nat.blt pc N then cd' pc else am_bad).2.1 = 99 ∨ am_chk y pc (bif Nat.blt pc N then cd' pc else am_bad) = true
  cases hb : Nat.blt pc N with
  | false => exact Or.inl rfl
  | true => exact h pc (Nat.le_of_ble_eq_true hb)
