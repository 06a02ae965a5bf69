theorem am_len {i len : Nat} (h : (i == 0 || len == i) = true) (h2 : i ≠ 0) : len = i := by
  rcases Bool.or_eq_true_iff.mp h with q | q
  · exact absurd (beq_iff_eq.mp q) h2
  · exact beq_iff_eq.mp q
theorem am_find {α : Type} {l : List (Nat × Nat × α)} {a b : Nat} {f : Nat × Nat × α} (h : l.find? (fun f => Nat.beq f.1 a && Nat.beq f.2.1 b) = some f) : (a, b, f.2.2) ∈ l := by
  have h1 := List.mem_of_find?_eq_some h
  have h2 := List.find?_some h
  simp only [Bool.and_eq_true, Nat.beq_eq] at h2
  rw [← h2.1, ← h2.2]
  exact h1
theorem am_brok {pc : Nat} {off : Int} {x : am_I} {P : am_I → Prop} (h : P (am_br pc off x)) (hb : ¬ P am_bad) : 0 ≤ (pc : Int) + off ∧ P x := by
  unfold am_br at h
  split at h
  · exact ⟨by assumption, h⟩
  · exact absurd h hb
set_option maxHeartbeats 4000000 in
theorem am_stp_ok {l : Launch} {L : Nat} {xs : Nat → Int} {y : Nat} {Q : Option am_V → am_N → Prop} {K : Nat → List (Option am_V) → List am_V → am_N → Prop} {pc : Nat} {lv : List (Option am_V)} {st : List am_V} {μ : am_N} {x : am_I} (hk : ∀ pc lv st μ, K pc lv st μ → am_AW l L xs y Q pc lv st μ) (hc : am_chk y pc x = true) (h : am_stp l L xs y Q K x lv st μ) : am_AW l L xs y Q pc lv st μ := by
  unfold am_chk at hc
  split at hc
  case h_2 => cases hc
  rename_i i len hd
  obtain ⟨hlen, hx⟩ := am_bb hc
  have hx := am_ie_eq hx
  subst hx
  have bad : ¬ am_stp l L xs y Q K am_bad lv st μ := fun q => q
  cases i
  case iconst n =>
    rw [am_len hlen (by simp [am_ln])] at hd
    exact am_s_iconst hk hd h
  case bipush n =>
    rw [am_len hlen (by simp [am_ln])] at hd
    exact am_s_bipush hk hd h
  case sipush n =>
    rw [am_len hlen (by simp [am_ln])] at hd
    exact am_s_sipush hk hd h
  case lconst n =>
    rw [am_len hlen (by simp [am_ln])] at hd
    exact am_s_lconst hk hd h
  case ldc k =>
    rw [am_len hlen (by simp [am_ln])] at hd
    simp only [am_nrm] at h
    split at h
    · rename_i f hf
      exact am_s_ldc hk hd (am_find hf) h
    · exact (bad h).elim
  case ldc_w k =>
    rw [am_len hlen (by simp [am_ln])] at hd
    simp only [am_nrm] at h
    split at h
    · rename_i f hf
      exact am_s_ldc_w hk hd (am_find hf) h
    · exact (bad h).elim
  case ldc2_w k =>
    rw [am_len hlen (by simp [am_ln])] at hd
    simp only [am_nrm] at h
    split at h
    · rename_i f hf
      exact am_s_ldc2 hk hd (am_find hf) h
    · exact (bad h).elim
  case iload k =>
    rw [am_len hlen (by simp [am_ln])] at hd
    exact am_s_iload hk hd h
  case iload_n k =>
    rw [am_len hlen (by simp [am_ln])] at hd
    exact am_s_iload_n hk hd h
  case lload k =>
    rw [am_len hlen (by simp [am_ln])] at hd
    exact am_s_lload hk hd h
  case lload_n k =>
    rw [am_len hlen (by simp [am_ln])] at hd
    exact am_s_lload_n hk hd h
  case aload k =>
    rw [am_len hlen (by simp [am_ln])] at hd
    exact am_s_aload hk hd h
  case aload_n k =>
    rw [am_len hlen (by simp [am_ln])] at hd
    exact am_s_aload_n hk hd h
  case istore k =>
    rw [am_len hlen (by simp [am_ln])] at hd
    exact am_s_istore hk hd h
  case istore_n k =>
    rw [am_len hlen (by simp [am_ln])] at hd
    exact am_s_istore_n hk hd h
  case lstore k =>
    rw [am_len hlen (by simp [am_ln])] at hd
    exact am_s_lstore hk hd h
  case lstore_n k =>
    rw [am_len hlen (by simp [am_ln])] at hd
    exact am_s_lstore_n hk hd h
  case iinc k n =>
    rw [am_len hlen (by simp [am_ln])] at hd
    exact am_s_iinc hk hd h
  case getfield k =>
    rw [am_len hlen (by simp [am_ln])] at hd
    simp only [am_nrm] at h
    split at h
    · rename_i f hf
      exact am_s_getfield hk hd (am_find hf) h
    · exact (bad h).elim
  case putfield k =>
    rw [am_len hlen (by simp [am_ln])] at hd
    simp only [am_nrm] at h
    split at h
    · rename_i f hf
      split at h
      · rename_i hfin
        split at h
        · rename_i hty
          exact am_s_putfield hk hd (am_find hf) hfin hty h
        · rename_i hty
          exact am_s_putfieldz hk hd (am_find hf) hfin hty h
        · exact (bad h).elim
      · exact (bad h).elim
    · exact (bad h).elim
  case iaload =>
    rw [am_len hlen (by simp [am_ln])] at hd
    exact am_s_iaload hk hd h
  case iastore =>
    rw [am_len hlen (by simp [am_ln])] at hd
    exact am_s_iastore hk hd h
  case aaload =>
    rw [am_len hlen (by simp [am_ln])] at hd
    exact am_s_aaload hk hd h
  case arraylength =>
    rw [am_len hlen (by simp [am_ln])] at hd
    exact am_s_alen hk hd h
  case iadd =>
    rw [am_len hlen (by simp [am_ln])] at hd
    exact am_s_iadd hk hd h
  case isub =>
    rw [am_len hlen (by simp [am_ln])] at hd
    exact am_s_isub hk hd h
  case imul =>
    rw [am_len hlen (by simp [am_ln])] at hd
    exact am_s_imul hk hd h
  case idiv =>
    rw [am_len hlen (by simp [am_ln])] at hd
    exact am_s_idiv hk hd h
  case irem =>
    rw [am_len hlen (by simp [am_ln])] at hd
    exact am_s_irem hk hd h
  case iand =>
    rw [am_len hlen (by simp [am_ln])] at hd
    exact am_s_iand hk hd h
  case ior =>
    rw [am_len hlen (by simp [am_ln])] at hd
    exact am_s_ior hk hd h
  case ixor =>
    rw [am_len hlen (by simp [am_ln])] at hd
    exact am_s_ixor hk hd h
  case ishl =>
    rw [am_len hlen (by simp [am_ln])] at hd
    exact am_s_ishl hk hd h
  case ishr =>
    rw [am_len hlen (by simp [am_ln])] at hd
    exact am_s_ishr hk hd h
  case ineg =>
    rw [am_len hlen (by simp [am_ln])] at hd
    exact am_s_ineg hk hd h
  case i2l =>
    rw [am_len hlen (by simp [am_ln])] at hd
    exact am_s_i2l hk hd h
  case lcmp =>
    rw [am_len hlen (by simp [am_ln])] at hd
    exact am_s_lcmp hk hd h
  case ladd =>
    rw [am_len hlen (by simp [am_ln])] at hd
    exact am_s_ladd hk hd h
  case lsub =>
    rw [am_len hlen (by simp [am_ln])] at hd
    exact am_s_lsub hk hd h
  case lmul =>
    rw [am_len hlen (by simp [am_ln])] at hd
    exact am_s_lmul hk hd h
  case ldiv =>
    rw [am_len hlen (by simp [am_ln])] at hd
    exact am_s_ldiv hk hd h
  case lrem =>
    rw [am_len hlen (by simp [am_ln])] at hd
    exact am_s_lrem hk hd h
  case pop =>
    rw [am_len hlen (by simp [am_ln])] at hd
    exact am_s_pop hk hd h
  case pop2 =>
    rw [am_len hlen (by simp [am_ln])] at hd
    exact am_s_pop2 hk hd h
  case dup =>
    rw [am_len hlen (by simp [am_ln])] at hd
    exact am_s_dup hk hd h
  case dup2 =>
    rw [am_len hlen (by simp [am_ln])] at hd
    exact am_s_dup2 hk hd h
  case dup_x1 =>
    rw [am_len hlen (by simp [am_ln])] at hd
    exact am_s_dup_x1 hk hd h
  case goto o =>
    rw [am_len hlen (by simp [am_ln])] at hd
    obtain ⟨h0, h⟩ := am_brok (P := fun x => am_stp l L xs y Q K x lv st μ) h bad
    exact am_s_goto hk hd h0 h
  case ifCond cd o =>
    rw [am_len hlen (by simp [am_ln])] at hd
    obtain ⟨h0, h⟩ := am_brok (P := fun x => am_stp l L xs y Q K x lv st μ) h bad
    cases cd
    · exact am_s_if_eq hk hd h0 h
    · exact am_s_if_ne hk hd h0 h
    · exact am_s_if_lt hk hd h0 h
    · exact am_s_if_ge hk hd h0 h
    · exact am_s_if_gt hk hd h0 h
    · exact am_s_if_le hk hd h0 h
  case if_icmp cd o =>
    rw [am_len hlen (by simp [am_ln])] at hd
    obtain ⟨h0, h⟩ := am_brok (P := fun x => am_stp l L xs y Q K x lv st μ) h bad
    cases cd
    · exact am_s_icmp_eq hk hd h0 h
    · exact am_s_icmp_ne hk hd h0 h
    · exact am_s_icmp_lt hk hd h0 h
    · exact am_s_icmp_ge hk hd h0 h
    · exact am_s_icmp_gt hk hd h0 h
    · exact am_s_icmp_le hk hd h0 h
  case invokevirtual k =>
    rw [am_len hlen (by simp [am_ln])] at hd
    simp only [am_nrm] at h
    split at h
    · rename_i f hf
      split at h
      · rename_i hok
        simp only [am_okc, Bool.and_eq_true, decide_eq_true_eq, Bool.not_eq_true'] at hok
        exact am_s_invv hk hd (am_find hf) hok.1.1.1.1 hok.1.1.1.2 hok.1.1.2 hok.1.2 hok.2 h
      · exact (bad h).elim
    · exact (bad h).elim
  case invokestatic k =>
    rw [am_len hlen (by simp [am_ln])] at hd
    simp only [am_nrm] at h
    split at h
    · rename_i f hf
      split at h
      · rename_i hok
        simp only [am_okc, Bool.and_eq_true, decide_eq_true_eq, Nat.beq_eq] at hok
        exact am_s_invs hk hd (am_find hf) hok.1.1.1.1.1 hok.1.1.1.1.2 hok.1.1.1.2 hok.1.1.2 hok.1.2 hok.2 h
      · exact (bad h).elim
    · split at h
      · rename_i f hf
        split at h
        · rename_i hok
          simp only [Bool.and_eq_true, decide_eq_true_eq] at hok
          have hm := am_find hf
          match hq : f.2.2, hok.2 with
          | 0, _ =>
            rw [hq] at h hm
            exact am_s_mmax hok.1.1 hok.1.2 hk hd hm h
          | 1, _ =>
            rw [hq] at h hm
            exact am_s_mmin hok.1.1 hok.1.2 hk hd hm h
          | 2, _ =>
            rw [hq] at h hm
            exact am_s_mabs hok.1.1 hok.1.2 hk hd hm h
        · exact (bad h).elim
      · exact (bad h).elim
  case return_ =>
    rw [am_len hlen (by simp [am_ln])] at hd
    simp only [am_nrm] at h
    split at h
    · rename_i hr
      exact am_s_return hk hd hr h
    · exact (bad h).elim
  case ireturn =>
    rw [am_len hlen (by simp [am_ln])] at hd
    simp only [am_nrm] at h
    split at h
    · rename_i hr
      exact am_s_ireturn hk hd hr h
    · rename_i hr
      exact am_s_ireturnz hk hd hr h
    · exact (bad h).elim
  case lreturn =>
    rw [am_len hlen (by simp [am_ln])] at hd
    simp only [am_nrm] at h
    split at h
    · rename_i hr
      exact am_s_lreturn hk hd hr h
    · exact (bad h).elim
  case tableswitch d lo hi offs =>
    simp only [am_nrm] at h
    split at h
    · rename_i hok
      simp only [Bool.and_eq_true, decide_eq_true_eq, List.all_eq_true] at hok
      exact am_s_table hk hd hok.1.1 hok.1.2 hok.2 h
    · exact (bad h).elim
  case lookupswitch d ps =>
    simp only [am_nrm] at h
    split at h
    · rename_i hok
      rw [Bool.and_eq_true, Bool.and_eq_true, decide_eq_true_eq, List.all_eq_true] at hok
      exact am_s_lookup hk hd hok.1.1 (fun o ho => by simpa using hok.1.2 o ho) hok.2 h
    · exact (bad h).elim
  all_goals exact (bad h).elim
