/-! rows of the abstract machine, one a kind of instruction -/

theorem am_ifb {b : Bool} {P : Prop} (h : am_if b P) : b = true ∧ P := by
  cases b with
  | true => exact ⟨rfl, h⟩
  | false => exact h.elim
theorem am_bb {a b : Bool} (h : (a && b) = true) : a = true ∧ b = true := Bool.and_eq_true_iff.mp h
theorem am_br2_iff {b : Nat} {x y : Int} {A B : Prop} : am_br2 b x y A B ↔ (am_co2 b x y → A) ∧ (¬ am_co2 b x y → B) := by
  unfold am_br2 am_co2
  split <;> simp only [Classical.not_not]
theorem am_ne0 {v : Int} (h : am_c v ≠ 0) : ¬ Int32.ofInt v = 0 := fun q => h (by rw [← am_0] at q; rw [(am_eq _ _).mp q, am_c0])
theorem am_ne064 {v : Int} (h : am_d v ≠ 0) : ¬ Int64.ofInt v = 0 := fun q => h (by rw [← am_toInt64, q]; rfl)
theorem am_nz {v : Int} (h : v = 0 ∨ v = 1) : narrow .boolean (.int (Int32.ofInt v)) = .int (Int32.ofInt v) := by
  rcases h with rfl | rfl <;> decide +kernel
theorem am_fz {v : Int} (h : v = 0 ∨ v = 1) : fits .boolean (.int (Int32.ofInt v)) = true := by
  rcases h with rfl | rfl <;> decide +kernel
theorem am_c_eq {x : Int} : (Int32.ofInt x = 0) ↔ am_co2 0 (am_c x) 0 := by
  rw [← am_0]; simp only [am_eq, am_lt, am_le, am_c0, am_co2]
theorem am_n_eq {x : Int} : (¬ Int32.ofInt x = 0) ↔ ¬ am_co2 0 (am_c x) 0 := by
  rw [← am_0]; simp only [am_eq, am_lt, am_le, am_c0, am_co2, Classical.not_not]
theorem am_c2_eq {x y : Int} : (Int32.ofInt x = Int32.ofInt y) ↔ am_co2 0 (am_c x) (am_c y) := by
  simp only [am_eq, am_lt, am_le, am_co2]
theorem am_n2_eq {x y : Int} : (¬ Int32.ofInt x = Int32.ofInt y) ↔ ¬ am_co2 0 (am_c x) (am_c y) := by
  simp only [am_eq, am_lt, am_le, am_co2, Classical.not_not]
theorem am_c_ne {x : Int} : (¬ Int32.ofInt x = 0) ↔ am_co2 1 (am_c x) 0 := by
  rw [← am_0]; simp only [am_eq, am_lt, am_le, am_c0, am_co2]
theorem am_n_ne {x : Int} : (Int32.ofInt x = 0) ↔ ¬ am_co2 1 (am_c x) 0 := by
  rw [← am_0]; simp only [am_eq, am_lt, am_le, am_c0, am_co2, Classical.not_not]
theorem am_c2_ne {x y : Int} : (¬ Int32.ofInt x = Int32.ofInt y) ↔ am_co2 1 (am_c x) (am_c y) := by
  simp only [am_eq, am_lt, am_le, am_co2]
theorem am_n2_ne {x y : Int} : (Int32.ofInt x = Int32.ofInt y) ↔ ¬ am_co2 1 (am_c x) (am_c y) := by
  simp only [am_eq, am_lt, am_le, am_co2, Classical.not_not]
theorem am_c_lt {x : Int} : (Int32.ofInt x < 0) ↔ am_co2 2 (am_c x) 0 := by
  rw [← am_0]; simp only [am_eq, am_lt, am_le, am_c0, am_co2]
theorem am_n_lt {x : Int} : (¬ Int32.ofInt x < 0) ↔ ¬ am_co2 2 (am_c x) 0 := by
  rw [← am_0]; simp only [am_eq, am_lt, am_le, am_c0, am_co2, Classical.not_not]
theorem am_c2_lt {x y : Int} : (Int32.ofInt x < Int32.ofInt y) ↔ am_co2 2 (am_c x) (am_c y) := by
  simp only [am_eq, am_lt, am_le, am_co2]
theorem am_n2_lt {x y : Int} : (¬ Int32.ofInt x < Int32.ofInt y) ↔ ¬ am_co2 2 (am_c x) (am_c y) := by
  simp only [am_eq, am_lt, am_le, am_co2, Classical.not_not]
theorem am_c_ge {x : Int} : (0 ≤ Int32.ofInt x) ↔ am_co2 3 (am_c x) 0 := by
  rw [← am_0]; simp only [am_eq, am_lt, am_le, am_c0, am_co2]
theorem am_n_ge {x : Int} : (¬ 0 ≤ Int32.ofInt x) ↔ ¬ am_co2 3 (am_c x) 0 := by
  rw [← am_0]; simp only [am_eq, am_lt, am_le, am_c0, am_co2, Classical.not_not]
theorem am_c2_ge {x y : Int} : (Int32.ofInt y ≤ Int32.ofInt x) ↔ am_co2 3 (am_c x) (am_c y) := by
  simp only [am_eq, am_lt, am_le, am_co2]
theorem am_n2_ge {x y : Int} : (¬ Int32.ofInt y ≤ Int32.ofInt x) ↔ ¬ am_co2 3 (am_c x) (am_c y) := by
  simp only [am_eq, am_lt, am_le, am_co2, Classical.not_not]
theorem am_c_gt {x : Int} : (0 < Int32.ofInt x) ↔ am_co2 4 (am_c x) 0 := by
  rw [← am_0]; simp only [am_eq, am_lt, am_le, am_c0, am_co2]
theorem am_n_gt {x : Int} : (¬ 0 < Int32.ofInt x) ↔ ¬ am_co2 4 (am_c x) 0 := by
  rw [← am_0]; simp only [am_eq, am_lt, am_le, am_c0, am_co2, Classical.not_not]
theorem am_c2_gt {x y : Int} : (Int32.ofInt y < Int32.ofInt x) ↔ am_co2 4 (am_c x) (am_c y) := by
  simp only [am_eq, am_lt, am_le, am_co2]
theorem am_n2_gt {x y : Int} : (¬ Int32.ofInt y < Int32.ofInt x) ↔ ¬ am_co2 4 (am_c x) (am_c y) := by
  simp only [am_eq, am_lt, am_le, am_co2, Classical.not_not]
theorem am_c_le {x : Int} : (Int32.ofInt x ≤ 0) ↔ am_co2 5 (am_c x) 0 := by
  rw [← am_0]; simp only [am_eq, am_lt, am_le, am_c0, am_co2]
theorem am_n_le {x : Int} : (¬ Int32.ofInt x ≤ 0) ↔ ¬ am_co2 5 (am_c x) 0 := by
  rw [← am_0]; simp only [am_eq, am_lt, am_le, am_c0, am_co2, Classical.not_not]
theorem am_c2_le {x y : Int} : (Int32.ofInt x ≤ Int32.ofInt y) ↔ am_co2 5 (am_c x) (am_c y) := by
  simp only [am_eq, am_lt, am_le, am_co2]
theorem am_n2_le {x y : Int} : (¬ Int32.ofInt x ≤ Int32.ofInt y) ↔ ¬ am_co2 5 (am_c x) (am_c y) := by
  simp only [am_eq, am_lt, am_le, am_co2, Classical.not_not]

theorem am_sw_tb {K : Nat → Prop} {pc d : Nat} {v : Int} : ∀ {lo : Int} {os : List Int}, am_sw (am_tb pc lo os) v d K → (∃ o, (¬ v < lo ∧ os[(v - lo).toNat]? = some o) ∧ K ((pc : Int) + o).toNat) ∨ ((v < lo ∨ lo + (os.length : Int) ≤ v) ∧ K d)
  | lo, [], h => Or.inr ⟨by simp only [List.length_nil]; omega, h⟩
  | lo, o :: r, h => by
    obtain ⟨h1, h2⟩ := h
    by_cases e : v = lo
    · exact Or.inl ⟨o, ⟨by omega, by rw [e]; simp⟩, h1 e⟩
    · rcases am_sw_tb (h2 e) with ⟨o', ⟨q1, q2⟩, q3⟩ | ⟨q1, q2⟩
      · refine Or.inl ⟨o', ⟨by omega, ?_⟩, q3⟩
        have e2 : (v - lo).toNat = (v - (lo + 1)).toNat + 1 := by omega
        rw [e2, List.getElem?_cons_succ]
        exact q2
      · refine Or.inr ⟨?_, q2⟩
        simp only [List.length_cons]
        omega
theorem am_sw_lk {K : Nat → Prop} {pc : Nat} {d v : Int} (h0 : 0 ≤ (pc : Int) + d) : ∀ {ps : List (Int × Int)}, (∀ o ∈ ps, 0 ≤ (pc : Int) + o.2) → am_sw (ps.map (fun o => (o.1, ((pc : Int) + o.2).toNat))) v ((pc : Int) + d).toNat K → K ((pc : Int) + Op.lookupswitch.offset ps d v).toNat ∧ 0 ≤ (pc : Int) + Op.lookupswitch.offset ps d v
  | [], _, h => ⟨h, h0⟩
  | (a, o) :: r, h1, h => by
    obtain ⟨q1, q2⟩ := h
    rw [Op.lookupswitch.offset_cons]
    by_cases e : a = v
    · rw [if_pos e]
      exact ⟨q1 e.symm, h1 (a, o) List.mem_cons_self⟩
    · rw [if_neg e]
      exact am_sw_lk h0 (fun o' ho' => h1 o' (List.mem_cons_of_mem _ ho')) (q2 (fun z => e z.symm))
theorem am_fl_all : am_fl.all (fun f => decide (f.2.2.1 < 8) && decide (f.2.2.2 < am_nf f.2.2.1)) = true := by decide +kernel
theorem am_lay_in : ∀ c, c < 8 → ∀ w ∈ u_ws (am_cn c) (am_cT c) (am_nf c), w ∈ am_big := by
  intro c hc
  match c, hc with
  | 0, _ => exact am_lay_in_0
  | 1, _ => exact am_lay_in_1
  | 2, _ => exact am_lay_in_2
  | 3, _ => exact am_lay_in_3
  | 4, _ => exact am_lay_in_4
  | 5, _ => exact am_lay_in_5
  | 6, _ => exact am_lay_in_6
  | 7, _ => exact am_lay_in_7
theorem am_vw : ∀ c, c < 8 → vwCl[c]? = some (am_cn c, am_cT c, am_nf c) := by
  intro c hc
  match c, hc with
  | 0, _ => rfl
  | 1, _ => rfl
  | 2, _ => rfl
  | 3, _ => rfl
  | 4, _ => rfl
  | 5, _ => rfl
  | 6, _ => rfl
  | 7, _ => rfl
theorem am_fl_ok {o k ci b : Nat} (h : (o, k, ci, b) ∈ am_fl) : vwCl[ci]? = some (am_cn ci, am_cT ci, am_nf ci) ∧ b < am_nf ci ∧ ∀ w ∈ u_ws (am_cn ci) (am_cT ci) (am_nf ci), w ∈ am_big := by
  have q := List.all_eq_true.mp am_fl_all _ h
  simp only [Bool.and_eq_true, decide_eq_true_eq] at q
  exact ⟨am_vw ci q.1, q.2, am_lay_in ci q.1⟩
theorem am_ty_ok {o k ci b : Nat} (h : (o, k, ci, b) ∈ am_fl) : (∀ j, j < am_nf ci → parseFieldDescriptor (am_cT ci j).2.2.1 = some (am_ty ci j)) ∧ ∀ a, a < am_nf ci → ∀ b, b < am_nf ci → a ≠ b → (am_cT ci a).2.1 ≠ (am_cT ci b).2.1 := by
  have q := List.all_eq_true.mp am_fl_all _ h
  simp only [Bool.and_eq_true, decide_eq_true_eq] at q
  match ci, q.1 with
  | 0, _ => exact ⟨tyX0_ok, nmX0⟩
  | 1, _ => exact ⟨tyX1_ok, nmX1⟩
  | 2, _ => exact ⟨tyX2_ok, nmX2⟩
  | 3, _ => exact ⟨tyX3_ok, nmX3⟩
  | 4, _ => exact ⟨tyX4_ok, nmX4⟩
  | 5, _ => exact ⟨tyX5_ok, nmX5⟩
  | 6, _ => exact ⟨tyX6_ok, nmX6⟩
  | 7, _ => exact ⟨tyX7_ok, nmX7⟩
theorem am_md_ok {z : Nat} (h0 : 0 < z) (h1 : z < am_ny) : (am_md z).1.cls = am_cn (am_ow z) ∧ ((am_md z).1.cls ≠ "java/lang/invoke/MethodHandle" ∧ (am_md z).1.cls ≠ "java/lang/invoke/VarHandle") ∧ (parseMethodDescriptor (am_md z).1.desc).map (fun d => d.parameters.length) = some (if am_st z = true then am_na z else am_na z - 1) ∧
    ((am_st z = false → Cond.instanceMethod (am_md z).1 ∈ am_big) ∧ (am_st z = false → Cond.selects (am_md z).1.cls (am_md z).1 (am_md z).1 ∈ am_big)) ∧ Cond.initialized (am_md z).1.cls ∈ am_big ∧ am_ow z < 8 := by
  have hin := am_md_in h0 h1
  have q := List.all_eq_true.mp am_okm_all _ hin
  unfold am_okm at q
  simp only [Bool.and_eq_true, decide_eq_true_eq, beq_iff_eq] at q
  obtain ⟨⟨⟨⟨⟨⟨q1, q2⟩, q3⟩, q4⟩, q5⟩, q6⟩, q7⟩ := q
  refine ⟨q1, ⟨q2, q3⟩, q6, ⟨fun h => ?_, fun h => ?_⟩, ?_, q5⟩
  · have w := am_inm_in _ hin
    unfold am_inw at w
    rwa [if_neg (by show ¬ am_st z = true; rw [h]; decide)] at w
  · exact am_se_in _ hin (by show (!am_st z) = true; rw [h]; rfl)
  · rw [q1]; exact am_ini_in q5
theorem am_md_st {z : Nat} (h0 : 0 < z) (h1 : z < am_ny) (h : am_st z = true) : Cond.static (am_md z).1 ∈ am_big := by
  have w := am_inm_in _ (am_md_in h0 h1)
  unfold am_inw at w
  rwa [if_pos (by show am_st z = true; exact h)] at w
theorem am_md_cd {z : Nat} (h0 : 0 < z) (h1 : z < am_ny) : Cond.code (am_md z).1 (am_bt z) (am_ml z) (am_re z) ∈ am_big := am_cd_in _ (am_md_in h0 h1)
theorem am_md_pl {z : Nat} (h0 : 0 < z) (h1 : z < am_ny) : plainName (am_md z).1.cls = true := by
  have q := List.all_eq_true.mp am_okm_all _ (am_md_in h0 h1)
  unfold am_okm at q
  simp only [Bool.and_eq_true, decide_eq_true_eq, beq_iff_eq] at q
  exact q.1.1.1.2
theorem am_goodw {z : Nat} (h0 : 0 < z) (h1 : z < am_ny) : GoodIn am_big (am_w z) := by
  intro w hw
  have hm : w ∈ am_big := by
    rcases List.mem_cons.mp hw with rfl | hw
    · exact am_md_cd h0 h1
    · exact hw
  exact ⟨hm, good_of_word (List.all_eq_true.mp am_big_good _ hm)⟩
theorem am_blind {D : va_G} {ad : Nat → Nat} {ca : Nat → ClassId} {tys : List (ClassId × FieldType)} {B0 : Nat} {args : List am_V} {μ : am_N} : FrameBlind (am_Pc D ad ca tys B0 args μ) := by
  intro a U g mk q
  obtain ⟨q0, q1, qP, qK, qD⟩ := q
  exact ⟨q0, q1, qP, va_K.moved (u := U) (U := U.calling g mk a) (Vm.Alike.refl U.vm) qK, qD⟩
theorem am_recv {s : State} {H : Heap} {D : va_G} {ad : Nat → Nat} {ca : Nat → ClassId} {μ : am_N} {k c : Nat} {fs : List Nat} {tys : List (ClassId × FieldType)} (hc : c < 8) (hK : va_K D vwCl tys s) (hP : va_P D vwCl (am_ws ad ca μ) H) (h : am_sh[k]? = some (c + 2, fs)) : ∃ cell : Cell, H[ad k]? = some cell ∧ cell.vm.isStatics = false ∧ s.vm.findClass (am_cn c) = some cell.cls :=
  va_recv hK hP (am_vw c hc) (am_ob h rfl)
theorem am_callW {p : Program} {l : Launch} {e : Env} {R : Room} {s : State} {m : MethodId} {args : Array Value} {below : List Frame} {meth : Method} {c : Code} {H : Heap} {locs : List Loc} {cells slots : Nat} {Qf : State → Prop} {pc : Nat} {ls : Array Slot} {rest st0 : List Value} {a : Array Value} {B0 : Nat} {Q : Option am_V → am_N → Prop} {D : va_G} {ad : Nat → Nat} {ca : Nat → ClassId}
    (hr : va_Run p l e R s m args below meth c H locs cells slots 0 0 (F0 m pc ls st0) rest (am_Q Q D ad ca B0 a) (am_A B0)) (hS : va_S (am_A B0) s.heap H locs)
    (kk : ∀ (r : Option am_V) (μ' : am_N) (H1 : Heap) (locs1 : List Loc), Q r μ' → va_P D vwCl (am_ws ad ca μ') H1 → va_D (am_A B0) (am_ws ad ca μ') → va_S (am_A B0) s.heap H1 locs1 → W p l e R s m args below meth c H1 locs1 cells slots Qf (F0 m (pc + 3) ls ((r.map (am_rv ad)).toList ++ rest))) : W p l e R s m args below meth c H locs cells slots Qf (F0 m pc ls st0) := by
  intro T hT X
  obtain ⟨v, st₀, t, T', L, h0, X', hL, e1, e2, ⟨⟨r, μ', hv, hq, hP', hD'⟩, hz, hk⟩, st⟩ := hr T hT X
  have hv := Outcome.returned.inj hv
  subst hv
  rw [h0] at hz hk
  obtain ⟨t2, a1, b1⟩ := kk r μ' T'.heap (locs ++ L) hq (by rw [e1]; exact hP') hD'
    ⟨Nat.le_trans hS.1 (by rw [e1]; exact hz), fun q h1 h2 => by rw [e1, hk q (Nat.lt_of_lt_of_le h1 hS.1) h2]; exact hS.2.1 q h1 h2, fun q hq => by
      rcases List.mem_append.mp hq with h | h
      · exact hS.2.2 q h
      · exact hL q h⟩ T' rfl X'
  exact ⟨t2, st t2 a1, b1⟩
theorem am_s_iconst {l : Launch} {L : Nat} {xs : Nat → Int} {y : Nat} {Q : Option am_V → am_N → Prop} {K : Nat → List (Option am_V) → List am_V → am_N → Prop} {pc : Nat} {lv : List (Option am_V)} {st : List am_V} {μ : am_N} {n : Int} (hk : ∀ pc lv st μ, K pc lv st μ → am_AW l L xs y Q pc lv st μ) (hd : decode (am_bt y) pc = .ok (.iconst n, 1)) (h : K (pc + 1) lv (.inl n :: st) μ) : am_AW l L xs y Q pc lv st μ := by
  intro p e R s m args below meth c D ad ca tys B0 cells slots Qf E hret H locs ls hL hP hD hS
  exact lv_iconst E.1 E.2.1 hd rfl (hk _ _ _ _ h p e R s m args below meth c D ad ca tys B0 cells slots Qf E hret H locs ls hL hP hD hS)
theorem am_s_bipush {l : Launch} {L : Nat} {xs : Nat → Int} {y : Nat} {Q : Option am_V → am_N → Prop} {K : Nat → List (Option am_V) → List am_V → am_N → Prop} {pc : Nat} {lv : List (Option am_V)} {st : List am_V} {μ : am_N} {n : Int} (hk : ∀ pc lv st μ, K pc lv st μ → am_AW l L xs y Q pc lv st μ) (hd : decode (am_bt y) pc = .ok (.bipush n, 2)) (h : K (pc + 2) lv (.inl (Int8.ofInt n).toInt32.toInt :: st) μ) : am_AW l L xs y Q pc lv st μ := by
  intro p e R s m args below meth c D ad ca tys B0 cells slots Qf E hret H locs ls hL hP hD hS
  exact lv_bipush E.1 E.2.1 hd (am_back _).symm (hk _ _ _ _ h p e R s m args below meth c D ad ca tys B0 cells slots Qf E hret H locs ls hL hP hD hS)
theorem am_s_sipush {l : Launch} {L : Nat} {xs : Nat → Int} {y : Nat} {Q : Option am_V → am_N → Prop} {K : Nat → List (Option am_V) → List am_V → am_N → Prop} {pc : Nat} {lv : List (Option am_V)} {st : List am_V} {μ : am_N} {n : Int} (hk : ∀ pc lv st μ, K pc lv st μ → am_AW l L xs y Q pc lv st μ) (hd : decode (am_bt y) pc = .ok (.sipush n, 3)) (h : K (pc + 3) lv (.inl (Int16.ofInt n).toInt32.toInt :: st) μ) : am_AW l L xs y Q pc lv st μ := by
  intro p e R s m args below meth c D ad ca tys B0 cells slots Qf E hret H locs ls hL hP hD hS
  exact lv_sipush E.1 E.2.1 hd (am_back _).symm (hk _ _ _ _ h p e R s m args below meth c D ad ca tys B0 cells slots Qf E hret H locs ls hL hP hD hS)
theorem am_s_lconst {l : Launch} {L : Nat} {xs : Nat → Int} {y : Nat} {Q : Option am_V → am_N → Prop} {K : Nat → List (Option am_V) → List am_V → am_N → Prop} {pc : Nat} {lv : List (Option am_V)} {st : List am_V} {μ : am_N} {n : Fin 2} (hk : ∀ pc lv st μ, K pc lv st μ → am_AW l L xs y Q pc lv st μ) (hd : decode (am_bt y) pc = .ok (.lconst n, 1)) (h : K (pc + 1) lv (.inr (.inl ((n : Nat) : Int)) :: st) μ) : am_AW l L xs y Q pc lv st μ := by
  intro p e R s m args below meth c D ad ca tys B0 cells slots Qf E hret H locs ls hL hP hD hS
  exact lv_lconst E.1 E.2.1 hd Int64.ofInt_eq_ofNat.symm (hk _ _ _ _ h p e R s m args below meth c D ad ca tys B0 cells slots Qf E hret H locs ls hL hP hD hS)
theorem am_s_ldc {l : Launch} {L : Nat} {xs : Nat → Int} {y : Nat} {Q : Option am_V → am_N → Prop} {K : Nat → List (Option am_V) → List am_V → am_N → Prop} {pc : Nat} {lv : List (Option am_V)} {st : List am_V} {μ : am_N} {k : Nat} {v : Int} (hk : ∀ pc lv st μ, K pc lv st μ → am_AW l L xs y Q pc lv st μ) (hd : decode (am_bt y) pc = .ok (.ldc k, 2)) (hf : (am_ow y, k, v) ∈ am_co) (h : K (pc + 2) lv (.inl v :: st) μ) : am_AW l L xs y Q pc lv st μ := by
  intro p e R s m args below meth c D ad ca tys B0 cells slots Qf E hret H locs ls hL hP hD hS
  exact lv_ldc E.1 E.2.1 E.2.2.2.1 (E.2.2.2.2.1 _ (am_co_in _ hf)) hd (hk _ _ _ _ h p e R s m args below meth c D ad ca tys B0 cells slots Qf E hret H locs ls hL hP hD hS)
theorem am_s_ldc_w {l : Launch} {L : Nat} {xs : Nat → Int} {y : Nat} {Q : Option am_V → am_N → Prop} {K : Nat → List (Option am_V) → List am_V → am_N → Prop} {pc : Nat} {lv : List (Option am_V)} {st : List am_V} {μ : am_N} {k : Nat} {v : Int} (hk : ∀ pc lv st μ, K pc lv st μ → am_AW l L xs y Q pc lv st μ) (hd : decode (am_bt y) pc = .ok (.ldc_w k, 3)) (hf : (am_ow y, k, v) ∈ am_co) (h : K (pc + 3) lv (.inl v :: st) μ) : am_AW l L xs y Q pc lv st μ := by
  intro p e R s m args below meth c D ad ca tys B0 cells slots Qf E hret H locs ls hL hP hD hS
  exact lv_ldcw E.1 E.2.1 E.2.2.2.1 (E.2.2.2.2.1 _ (am_co_in _ hf)) hd (hk _ _ _ _ h p e R s m args below meth c D ad ca tys B0 cells slots Qf E hret H locs ls hL hP hD hS)
theorem am_s_ldc2 {l : Launch} {L : Nat} {xs : Nat → Int} {y : Nat} {Q : Option am_V → am_N → Prop} {K : Nat → List (Option am_V) → List am_V → am_N → Prop} {pc : Nat} {lv : List (Option am_V)} {st : List am_V} {μ : am_N} {k : Nat} {v : Int} (hk : ∀ pc lv st μ, K pc lv st μ → am_AW l L xs y Q pc lv st μ) (hd : decode (am_bt y) pc = .ok (.ldc2_w k, 3)) (hf : (am_ow y, k, v) ∈ am_cl) (h : K (pc + 3) lv (.inr (.inl v) :: st) μ) : am_AW l L xs y Q pc lv st μ := by
  intro p e R s m args below meth c D ad ca tys B0 cells slots Qf E hret H locs ls hL hP hD hS
  exact lv_ldc2 E.1 E.2.1 E.2.2.2.1 (E.2.2.2.2.1 _ (am_cl_in _ hf)) hd (hk _ _ _ _ h p e R s m args below meth c D ad ca tys B0 cells slots Qf E hret H locs ls hL hP hD hS)
theorem am_s_iload {l : Launch} {L : Nat} {xs : Nat → Int} {y : Nat} {Q : Option am_V → am_N → Prop} {K : Nat → List (Option am_V) → List am_V → am_N → Prop} {pc : Nat} {lv : List (Option am_V)} {st : List am_V} {μ : am_N} {k : Nat} (hk : ∀ pc lv st μ, K pc lv st μ → am_AW l L xs y Q pc lv st μ) (hd : decode (am_bt y) pc = .ok (.iload k, 2)) (h : am_stp l L xs y Q K (pc + 2, 2, k, 0, 0, 0, []) lv st μ) : am_AW l L xs y Q pc lv st μ := by
  simp only [am_stp] at h
  split at h
  · rename_i v hv
    intro p e R s m args below meth c D ad ca tys B0 cells slots Qf E hret H locs ls hL hP hD hS
    exact lv_iload E.1 E.2.1 hd (hL.2.2.1 _ _ hv) (hk _ _ _ _ h p e R s m args below meth c D ad ca tys B0 cells slots Qf E hret H locs ls hL hP hD hS)
  · exact h.elim
theorem am_s_iload_n {l : Launch} {L : Nat} {xs : Nat → Int} {y : Nat} {Q : Option am_V → am_N → Prop} {K : Nat → List (Option am_V) → List am_V → am_N → Prop} {pc : Nat} {lv : List (Option am_V)} {st : List am_V} {μ : am_N} {k : Fin 4} (hk : ∀ pc lv st μ, K pc lv st μ → am_AW l L xs y Q pc lv st μ) (hd : decode (am_bt y) pc = .ok (.iload_n k, 1)) (h : am_stp l L xs y Q K (pc + 1, 2, (k : Nat), 0, 0, 0, []) lv st μ) : am_AW l L xs y Q pc lv st μ := by
  simp only [am_stp] at h
  split at h
  · rename_i v hv
    intro p e R s m args below meth c D ad ca tys B0 cells slots Qf E hret H locs ls hL hP hD hS
    exact lv_iload_n E.1 E.2.1 hd rfl (hL.2.2.1 _ _ hv) (hk _ _ _ _ h p e R s m args below meth c D ad ca tys B0 cells slots Qf E hret H locs ls hL hP hD hS)
  · exact h.elim
theorem am_s_lload {l : Launch} {L : Nat} {xs : Nat → Int} {y : Nat} {Q : Option am_V → am_N → Prop} {K : Nat → List (Option am_V) → List am_V → am_N → Prop} {pc : Nat} {lv : List (Option am_V)} {st : List am_V} {μ : am_N} {k : Nat} (hk : ∀ pc lv st μ, K pc lv st μ → am_AW l L xs y Q pc lv st μ) (hd : decode (am_bt y) pc = .ok (.lload k, 2)) (h : am_stp l L xs y Q K (pc + 2, 4, k, 0, 0, 0, []) lv st μ) : am_AW l L xs y Q pc lv st μ := by
  simp only [am_stp] at h
  split at h
  · rename_i v hv
    intro p e R s m args below meth c D ad ca tys B0 cells slots Qf E hret H locs ls hL hP hD hS
    exact lv_lload E.1 E.2.1 hd (hL.2.2.1 _ _ hv) (hk _ _ _ _ h p e R s m args below meth c D ad ca tys B0 cells slots Qf E hret H locs ls hL hP hD hS)
  · exact h.elim
theorem am_s_lload_n {l : Launch} {L : Nat} {xs : Nat → Int} {y : Nat} {Q : Option am_V → am_N → Prop} {K : Nat → List (Option am_V) → List am_V → am_N → Prop} {pc : Nat} {lv : List (Option am_V)} {st : List am_V} {μ : am_N} {k : Fin 4} (hk : ∀ pc lv st μ, K pc lv st μ → am_AW l L xs y Q pc lv st μ) (hd : decode (am_bt y) pc = .ok (.lload_n k, 1)) (h : am_stp l L xs y Q K (pc + 1, 4, (k : Nat), 0, 0, 0, []) lv st μ) : am_AW l L xs y Q pc lv st μ := by
  simp only [am_stp] at h
  split at h
  · rename_i v hv
    intro p e R s m args below meth c D ad ca tys B0 cells slots Qf E hret H locs ls hL hP hD hS
    exact lv_lload_n E.1 E.2.1 hd rfl (hL.2.2.1 _ _ hv) (hk _ _ _ _ h p e R s m args below meth c D ad ca tys B0 cells slots Qf E hret H locs ls hL hP hD hS)
  · exact h.elim
theorem am_s_aload {l : Launch} {L : Nat} {xs : Nat → Int} {y : Nat} {Q : Option am_V → am_N → Prop} {K : Nat → List (Option am_V) → List am_V → am_N → Prop} {pc : Nat} {lv : List (Option am_V)} {st : List am_V} {μ : am_N} {k : Nat} (hk : ∀ pc lv st μ, K pc lv st μ → am_AW l L xs y Q pc lv st μ) (hd : decode (am_bt y) pc = .ok (.aload k, 2)) (h : am_stp l L xs y Q K (pc + 2, 6, k, 0, 0, 0, []) lv st μ) : am_AW l L xs y Q pc lv st μ := by
  simp only [am_stp] at h
  split at h
  · rename_i v hv
    intro p e R s m args below meth c D ad ca tys B0 cells slots Qf E hret H locs ls hL hP hD hS
    exact lv_aload E.1 E.2.1 hd (hL.2.2.1 _ _ hv) (hk _ _ _ _ h p e R s m args below meth c D ad ca tys B0 cells slots Qf E hret H locs ls hL hP hD hS)
  · exact h.elim
theorem am_s_aload_n {l : Launch} {L : Nat} {xs : Nat → Int} {y : Nat} {Q : Option am_V → am_N → Prop} {K : Nat → List (Option am_V) → List am_V → am_N → Prop} {pc : Nat} {lv : List (Option am_V)} {st : List am_V} {μ : am_N} {k : Fin 4} (hk : ∀ pc lv st μ, K pc lv st μ → am_AW l L xs y Q pc lv st μ) (hd : decode (am_bt y) pc = .ok (.aload_n k, 1)) (h : am_stp l L xs y Q K (pc + 1, 6, (k : Nat), 0, 0, 0, []) lv st μ) : am_AW l L xs y Q pc lv st μ := by
  simp only [am_stp] at h
  split at h
  · rename_i v hv
    intro p e R s m args below meth c D ad ca tys B0 cells slots Qf E hret H locs ls hL hP hD hS
    exact lv_aload_n E.1 E.2.1 hd rfl (hL.2.2.1 _ _ hv) (hk _ _ _ _ h p e R s m args below meth c D ad ca tys B0 cells slots Qf E hret H locs ls hL hP hD hS)
  · exact h.elim
theorem am_s_istore {l : Launch} {L : Nat} {xs : Nat → Int} {y : Nat} {Q : Option am_V → am_N → Prop} {K : Nat → List (Option am_V) → List am_V → am_N → Prop} {pc : Nat} {lv : List (Option am_V)} {st : List am_V} {μ : am_N} {k : Nat} (hk : ∀ pc lv st μ, K pc lv st μ → am_AW l L xs y Q pc lv st μ) (hd : decode (am_bt y) pc = .ok (.istore k, 2)) (h : am_stp l L xs y Q K (pc + 2, 3, k, 0, 0, 0, []) lv st μ) : am_AW l L xs y Q pc lv st μ := by
  simp only [am_stp] at h
  split at h
  · rename_i v r
    obtain ⟨h0, h⟩ := am_ifb h
    obtain ⟨h1, h2⟩ := am_bb h0
    have h1 := Nat.le_of_ble_eq_true h1
    intro p e R s m args below meth c D ad ca tys B0 cells slots Qf E hret H locs ls hL hP hD hS
    exact lv_istore E.1 E.2.1 hd hL.has (by rw [← hL.2.2.2]; exact h1) rfl (fun ls' hl' => hk _ _ _ _ h p e R s m args below meth c D ad ca tys B0 cells slots Qf E hret H locs ls' (am_L1 (v := Sum.inl v) hL.2.2.2 h2 hl') hP hD hS)
  · exact h.elim
theorem am_s_istore_n {l : Launch} {L : Nat} {xs : Nat → Int} {y : Nat} {Q : Option am_V → am_N → Prop} {K : Nat → List (Option am_V) → List am_V → am_N → Prop} {pc : Nat} {lv : List (Option am_V)} {st : List am_V} {μ : am_N} {k : Fin 4} (hk : ∀ pc lv st μ, K pc lv st μ → am_AW l L xs y Q pc lv st μ) (hd : decode (am_bt y) pc = .ok (.istore_n k, 1)) (h : am_stp l L xs y Q K (pc + 1, 3, (k : Nat), 0, 0, 0, []) lv st μ) : am_AW l L xs y Q pc lv st μ := by
  simp only [am_stp] at h
  split at h
  · rename_i v r
    obtain ⟨h0, h⟩ := am_ifb h
    obtain ⟨h1, h2⟩ := am_bb h0
    have h1 := Nat.le_of_ble_eq_true h1
    intro p e R s m args below meth c D ad ca tys B0 cells slots Qf E hret H locs ls hL hP hD hS
    exact lv_istore_n E.1 E.2.1 hd rfl hL.has (by rw [← hL.2.2.2]; exact h1) rfl (fun ls' hl' => hk _ _ _ _ h p e R s m args below meth c D ad ca tys B0 cells slots Qf E hret H locs ls' (am_L1 (v := Sum.inl v) hL.2.2.2 h2 hl') hP hD hS)
  · exact h.elim
theorem am_s_lstore {l : Launch} {L : Nat} {xs : Nat → Int} {y : Nat} {Q : Option am_V → am_N → Prop} {K : Nat → List (Option am_V) → List am_V → am_N → Prop} {pc : Nat} {lv : List (Option am_V)} {st : List am_V} {μ : am_N} {k : Nat} (hk : ∀ pc lv st μ, K pc lv st μ → am_AW l L xs y Q pc lv st μ) (hd : decode (am_bt y) pc = .ok (.lstore k, 2)) (h : am_stp l L xs y Q K (pc + 2, 5, k, 0, 0, 0, []) lv st μ) : am_AW l L xs y Q pc lv st μ := by
  simp only [am_stp] at h
  split at h
  · rename_i v r
    obtain ⟨h0, h⟩ := am_ifb h
    obtain ⟨h1, h2⟩ := am_bb h0
    have h1 := Nat.le_of_ble_eq_true h1
    intro p e R s m args below meth c D ad ca tys B0 cells slots Qf E hret H locs ls hL hP hD hS
    exact lv_lstore E.1 E.2.1 hd hL.has (by rw [← hL.2.2.2]; exact h1) rfl (fun ls' hl' => hk _ _ _ _ h p e R s m args below meth c D ad ca tys B0 cells slots Qf E hret H locs ls' (am_L2 (v := Sum.inr (Sum.inl v)) hL.2.2.2 h2 hl') hP hD hS)
  · exact h.elim
theorem am_s_lstore_n {l : Launch} {L : Nat} {xs : Nat → Int} {y : Nat} {Q : Option am_V → am_N → Prop} {K : Nat → List (Option am_V) → List am_V → am_N → Prop} {pc : Nat} {lv : List (Option am_V)} {st : List am_V} {μ : am_N} {k : Fin 4} (hk : ∀ pc lv st μ, K pc lv st μ → am_AW l L xs y Q pc lv st μ) (hd : decode (am_bt y) pc = .ok (.lstore_n k, 1)) (h : am_stp l L xs y Q K (pc + 1, 5, (k : Nat), 0, 0, 0, []) lv st μ) : am_AW l L xs y Q pc lv st μ := by
  simp only [am_stp] at h
  split at h
  · rename_i v r
    obtain ⟨h0, h⟩ := am_ifb h
    obtain ⟨h1, h2⟩ := am_bb h0
    have h1 := Nat.le_of_ble_eq_true h1
    intro p e R s m args below meth c D ad ca tys B0 cells slots Qf E hret H locs ls hL hP hD hS
    exact lv_lstore_n E.1 E.2.1 hd rfl hL.has (by rw [← hL.2.2.2]; exact h1) rfl (fun ls' hl' => hk _ _ _ _ h p e R s m args below meth c D ad ca tys B0 cells slots Qf E hret H locs ls' (am_L2 (v := Sum.inr (Sum.inl v)) hL.2.2.2 h2 hl') hP hD hS)
  · exact h.elim
theorem am_s_iinc {l : Launch} {L : Nat} {xs : Nat → Int} {y : Nat} {Q : Option am_V → am_N → Prop} {K : Nat → List (Option am_V) → List am_V → am_N → Prop} {pc : Nat} {lv : List (Option am_V)} {st : List am_V} {μ : am_N} {k : Nat} {n : Int} (hk : ∀ pc lv st μ, K pc lv st μ → am_AW l L xs y Q pc lv st μ) (hd : decode (am_bt y) pc = .ok (.iinc k n, 3)) (h : am_stp l L xs y Q K (pc + 3, 24, k, 0, 0, n, []) lv st μ) : am_AW l L xs y Q pc lv st μ := by
  simp only [am_stp] at h
  split at h
  · rename_i v hv
    obtain ⟨h2, h⟩ := am_ifb h
    intro p e R s m args below meth c D ad ca tys B0 cells slots Qf E hret H locs ls hL hP hD hS
    obtain ⟨j, hj⟩ := List.getElem?_of_mem (am_prs_in (ad := ad) (q := (k, .int (Int32.ofInt v))) |>.mpr ⟨.inl v, hv, rfl⟩)
    exact lv_iinc (v := Int32.ofInt (v + n)) E.1 E.2.1 hd hL.has hj (by rw [Int32.ofInt_add]) (by rw [← hL.2.2.2]; exact (List.getElem?_eq_some_iff.mp hv).1) rfl (fun ls' hl' => hk _ _ _ _ h p e R s m args below meth c D ad ca tys B0 cells slots Qf E hret H locs ls' (am_L1 (v := Sum.inl (v + n)) hL.2.2.2 h2 hl') hP hD hS)
  · exact h.elim
theorem am_s_getfield {l : Launch} {L : Nat} {xs : Nat → Int} {y : Nat} {Q : Option am_V → am_N → Prop} {K : Nat → List (Option am_V) → List am_V → am_N → Prop} {pc : Nat} {lv : List (Option am_V)} {st : List am_V} {μ : am_N} {k ci b : Nat} (hk : ∀ pc lv st μ, K pc lv st μ → am_AW l L xs y Q pc lv st μ) (hd : decode (am_bt y) pc = .ok (.getfield k, 3)) (hf : (am_ow y, k, ci, b) ∈ am_fl) (h : am_stp l L xs y Q K (pc + 3, 7, ci, b, 0, 0, []) lv st μ) : am_AW l L xs y Q pc lv st μ := by
  simp only [am_stp] at h
  split at h
  · rename_i a r
    split at h
    · rename_i t fs hsh
      obtain ⟨ht, h⟩ := am_ifb h
      have ht := Nat.eq_of_beq_eq_true ht
      split at h
      · rename_i hb
        intro p e R s m args below meth c D ad ca tys B0 cells slots Qf E hret H locs ls hL hP hD hS
        obtain ⟨hc, hk1, hk2⟩ := am_fl_ok hf
        exact va_get (D := D) (v := .int (Int32.ofInt (μ a b))) E.1 E.2.1 E.2.2.2.2.1 hk2 E.2.2.2.1 E.2.2.2.2.2.1 hP a (am_ob hsh ht) hc b hk1 (E.2.2.2.2.1 _ (am_fl_in _ hf)) (fun _ h9 => h9) (am_ob_at hb) hd (hk _ _ _ _ h p e R s m args below meth c D ad ca tys B0 cells slots Qf E hret H locs ls hL hP hD hS)
      · rename_i j hb
        intro p e R s m args below meth c D ad ca tys B0 cells slots Qf E hret H locs ls hL hP hD hS
        obtain ⟨hc, hk1, hk2⟩ := am_fl_ok hf
        exact va_get (D := D) (v := .ref (ad j)) E.1 E.2.1 E.2.2.2.2.1 hk2 E.2.2.2.1 E.2.2.2.2.2.1 hP a (am_ob hsh ht) hc b hk1 (E.2.2.2.2.1 _ (am_fl_in _ hf)) (fun _ h9 => h9) (am_ob_at hb) hd (hk _ _ _ _ h p e R s m args below meth c D ad ca tys B0 cells slots Qf E hret H locs ls hL hP hD hS)
      · exact h.elim
    · exact h.elim
  · exact h.elim
