theorem am_ent {ad : Nat → Nat} {args : List am_V} {n : Nat} (hn : (am_sl args).length ≤ n) : am_L ((lg_sl (args.map (am_rv ad)) ++ List.replicate (n - (lg_sl (args.map (am_rv ad))).length) Slot.unset).toArray) n ad (am_lv n args) := by
  refine am_L.of (lv_entry (args.map (am_rv ad)) (n := n) (by rw [am_sl_len]; exact hn)) (by unfold am_lv; rw [List.length_append, List.length_replicate]; omega) fun i v hv => ?_
  unfold am_lv at hv
  by_cases hi : i < (am_sl args).length
  · rw [List.getElem?_append_left hi] at hv
    have q := am_sl_at ad args 0 i v hv
    rwa [Nat.zero_add] at q
  · rw [List.getElem?_append_right (by omega), List.getElem?_replicate] at hv
    split at hv <;> simp at hv
theorem am_Does_of {l : Launch} {y : Nat} {args : List am_V} {μ : am_N} {Q : Option am_V → am_N → Prop} (h0 : 0 < y) (h1 : y < am_ny) (hn : (am_sl args).length ≤ am_ml y) (h : am_AW l 0 (fun _ => 0) y Q 0 (am_lv (am_ml y) args) [] μ) : am_Does l y args μ Q := by
  intro D ad ca tys B0 hTY
  refine Met.ofW (cc := am_bt y) (maxL := am_ml y) (ret := am_re y) (am_md_pl h0 h1) rfl ?_
  intro p e s m aargs below meth c s₁ B hml hv
  obtain ⟨rfl, hB, hP, hK, hD⟩ := hv
  have hlocks := B.notSynchronized
  have hx := B.exec
  have hb := B.bytes
  have hr := B.returns
  have hts := atoms_spec (ws := am_w y) B.pre
  have hown : s.vm.findClass (am_md y).1.cls = some m.cls := findClass_of_methodNamed B.named
  rw [(am_md_ok h0 h1).1] at hown
  rw [lg_entry_eq]
  refine h p e (headSpec (am_w y) (am_rm y)).room s m _ below meth c D ad ca tys B0 0 0 _ ⟨hx, hb, hml, hown, fun w hw => hts w (List.mem_cons_of_mem _ hw), hK, hTY, hB, Nat.le_refl _, Nat.le_refl _, Nat.zero_le _, Nat.zero_le _, fun q => absurd q (by omega)⟩ ?_ s.heap [] _ (am_ent hn) hP hD va_S.rf
  intro r μ' H locs pc' ls hq hP hD hS hrt
  match r, hq, hrt with
  | none, hq, hrt => exact W.vret hx hb (hr.trans hrt.2) (fun t ht hW => ⟨⟨none, μ', rfl, hq, by rw [ht]; exact hP, hD⟩, hS.F ht⟩) hS.2.2 hrt.1 hlocks
  | some (.inl z), hq, hrt =>
    rcases hrt.2 with q | ⟨q, hz⟩
    · exact W.iret (v := Int32.ofInt z) hx hb (hr.trans q) (fun t ht hW => ⟨⟨some (.inl z), μ', rfl, hq, by rw [ht]; exact hP, hD⟩, hS.F ht⟩) hS.2.2 hrt.1 hlocks
    · exact W.zret (v := Int32.ofInt z) hx hb (hr.trans q) (am_nz hz) (fun t ht hW => ⟨⟨some (.inl z), μ', rfl, hq, by rw [ht]; exact hP, hD⟩, hS.F ht⟩) hS.2.2 hrt.1 hlocks
  | some (.inr (.inl z)), hq, hrt => exact W.lret (v := Int64.ofInt z) hx hb (hr.trans hrt.2) (fun t ht hW => ⟨⟨some (.inr (.inl z)), μ', rfl, hq, by rw [ht]; exact hP, hD⟩, hS.F ht⟩) hS.2.2 hrt.1 hlocks
