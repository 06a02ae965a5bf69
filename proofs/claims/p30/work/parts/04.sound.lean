/-! the abstract machine's step is borne out by the machine -/
theorem am_toInt (z : Int) : (Int32.ofInt z).toInt = am_c z := by
  rw [Int32.toInt_ofInt]
  unfold am_c Int.bmod
  simp only [show ((Int32.size : Nat) : Int) = 4294967296 from rfl, show Int32.size = 4294967296 from rfl]
  split <;> omega
theorem am_toInt64 (z : Int) : (Int64.ofInt z).toInt = am_d z := by
  rw [Int64.toInt_ofInt]
  unfold am_d Int.bmod
  simp only [show ((Int64.size : Nat) : Int) = 18446744073709551616 from rfl, show Int64.size = 18446744073709551616 from rfl]
  split <;> omega
theorem am_inj {z : Int} {x : Int32} (h : am_c z = x.toInt) : Int32.ofInt z = x := Int32.toInt_inj.mp ((am_toInt z).trans h)
theorem am_inj64 {z : Int} {x : Int64} (h : am_d z = x.toInt) : Int64.ofInt z = x := Int64.toInt_inj.mp ((am_toInt64 z).trans h)
theorem am_back (x : Int32) : Int32.ofInt x.toInt = x := Int32.ofInt_toInt x
theorem am_can (z : Int) : Int32.ofInt (am_c z) = Int32.ofInt z := by rw [← am_toInt]; exact am_back _
theorem am_can64 (z : Int) : Int64.ofInt (am_d z) = Int64.ofInt z := by rw [← am_toInt64]; exact Int64.ofInt_toInt _
theorem am_lt (a b : Int) : Int32.ofInt a < Int32.ofInt b ↔ am_c a < am_c b := by rw [Int32.lt_iff_toInt_lt, am_toInt, am_toInt]
theorem am_le (a b : Int) : Int32.ofInt a ≤ Int32.ofInt b ↔ am_c a ≤ am_c b := by rw [Int32.le_iff_toInt_le, am_toInt, am_toInt]
theorem am_eq (a b : Int) : Int32.ofInt a = Int32.ofInt b ↔ am_c a = am_c b := by rw [← Int32.toInt_inj, am_toInt, am_toInt]
theorem am_0 : Int32.ofInt 0 = 0 := by decide +kernel
theorem am_c0 : am_c 0 = 0 := by decide +kernel
theorem am_in {i : Int} {n : Nat} (h : 0 ≤ am_c i ∧ am_c i < n) : vp_in (Int32.ofInt i) n := vp_in_iff.mpr (by rw [am_toInt]; exact h)
theorem am_cl_nat (i : Int) : (Int32.ofInt i).toNatClampNeg = (am_c i).toNat := by
  show (Int32.ofInt i).toInt.toNat = _
  rw [am_toInt]
theorem am_div32 (a b : Int) : Int32.ofInt a / Int32.ofInt b = Int32.ofInt ((am_c a).tdiv (am_c b)) := by
  apply Int32.toInt_inj.mp
  rw [Int32.toInt_div, am_toInt, am_toInt, Int32.toInt_ofInt]
theorem am_div64 (a b : Int) : Int64.ofInt a / Int64.ofInt b = Int64.ofInt ((am_d a).tdiv (am_d b)) := by
  apply Int64.toInt_inj.mp
  rw [Int64.toInt_div, am_toInt64, am_toInt64, Int64.toInt_ofInt]
theorem am_rem32 (a b : Int) : Int32.ofInt a - Int32.ofInt a / Int32.ofInt b * Int32.ofInt b = Int32.ofInt ((am_c a).tmod (am_c b)) := by
  rw [am_div32, ← am_can a, ← am_can b]
  simp only [am_can, am_toInt]
  rw [Int.tmod_def, Int32.ofInt_sub, Int32.ofInt_mul, am_can, am_can, Int32.mul_comm]
theorem am_rem64 (a b : Int) : Int64.ofInt a - Int64.ofInt a / Int64.ofInt b * Int64.ofInt b = Int64.ofInt ((am_d a).tmod (am_d b)) := by
  rw [am_div64, Int.tmod_def, Int64.ofInt_sub, Int64.ofInt_mul, am_can64, am_can64, Int64.mul_comm]
theorem am_i2l (z : Int) : (Int32.ofInt z).toInt64 = Int64.ofInt (am_c z) := by
  rw [← am_toInt]; exact (Int64.ofInt_int32ToInt _).symm
theorem am_lcmp (u v : Int) : lg_cmp (Int64.ofInt u) (Int64.ofInt v) = Int32.ofInt (if am_d v < am_d u then 1 else if am_d u = am_d v then 0 else -1) := by
  unfold lg_cmp
  simp only [gt_iff_lt, Int64.lt_iff_toInt_lt, ← Int64.toInt_inj, am_toInt64]
  split
  · rfl
  · split <;> rfl
theorem am_ofNat (n : Nat) : Int32.ofNat n = Int32.ofInt (n : Int) := Int32.ofInt_eq_ofNat.symm
theorem am_ws_at {ad : Nat → Nat} {ca : Nat → ClassId} {μ : am_N} {k : Nat} {q : Nat × List Nat} (h : am_sh[k]? = some q) : (am_ws ad ca μ)[k]? = some (ad k, am_ce ad ca k q (μ k)) := by
  unfold am_ws
  rw [List.getElem?_mapIdx, h]; rfl
theorem am_ws_set {ad : Nat → Nat} {ca : Nat → ClassId} {μ : am_N} {k j : Nat} {v : Int} {q : Nat × List Nat} {e : va_E} (h : am_sh[k]? = some q) (he : e = am_ce ad ca k q (am_up μ k j v k)) : (am_ws ad ca μ).set k (ad k, e) = am_ws ad ca (am_up μ k j v) := by
  have hk : k < am_sh.length := (List.getElem?_eq_some_iff.mp h).1
  apply List.ext_getElem?
  intro i
  by_cases hi : k = i
  · subst hi
    rw [List.getElem?_set_self (by unfold am_ws; rw [List.length_mapIdx]; exact hk), am_ws_at h, he]
  · rw [List.getElem?_set_ne hi]
    unfold am_ws
    rw [List.getElem?_mapIdx, List.getElem?_mapIdx]
    cases hq : am_sh[i]? with
    | none => rfl
    | some w =>
      have e1 : am_up μ k j v i = μ i := by
        funext b
        unfold am_up
        rw [if_neg (fun z => hi z.1.symm)]
      simp only [Option.map_some, e1]
theorem am_cat_rv (ad : Nat → Nat) (v : am_V) : (am_rv ad v).category = am_cat v := by
  rcases v with z | z | k <;> rfl
theorem am_cats (ad : Nat → Nat) (st : List am_V) : ((st.map (am_rv ad)).map fun v => v.category).sum = (st.map am_cat).sum := by
  induction st with
  | nil => rfl
  | cons v r ih => simp only [List.map_cons, List.sum_cons, am_cat_rv, ih]
/-- locals: the list that the kit's rows speak of -/
def am_prs (ad : Nat → Nat) (lv : List (Option am_V)) : List (Nat × Value) := (List.range lv.length).filterMap (fun i => (lv[i]?).join.map (fun v => (i, am_rv ad v)))
theorem am_prs_in {ad : Nat → Nat} {lv : List (Option am_V)} {q : Nat × Value} : q ∈ am_prs ad lv ↔ ∃ v, lv[q.1]? = some (some v) ∧ q.2 = am_rv ad v := by
  unfold am_prs
  rw [List.mem_filterMap]
  constructor
  · rintro ⟨i, hi, h⟩
    cases hl : lv[i]? with
    | none => rw [hl] at h; simp at h
    | some o =>
      cases o with
      | none => rw [hl] at h; simp at h
      | some v =>
        rw [hl] at h
        simp only [Option.join_some, Option.map_some, Option.some.injEq] at h
        subst h
        exact ⟨v, hl, rfl⟩
  · rintro ⟨v, h1, h2⟩
    refine ⟨q.1, List.mem_range.mpr (List.getElem?_eq_some_iff.mp h1).1, ?_⟩
    rw [h1]
    simp only [Option.join_some, Option.map_some, ← h2]
theorem am_L.has {ls : Array Slot} {nL : Nat} {ad : Nat → Nat} {lv : List (Option am_V)} (h : am_L ls nL ad lv) : lv_has ls nL (am_prs ad lv) :=
  ⟨h.1, h.2.1, fun q hq => by obtain ⟨v, h1, h2⟩ := am_prs_in.mp hq; rw [h2]; exact h.2.2.1 _ _ h1⟩
theorem am_L.of {ls : Array Slot} {nL : Nat} {ad : Nat → Nat} {lv : List (Option am_V)} {l : List (Nat × Value)} (h : lv_has ls nL l) (hn : lv.length = nL) (hl : ∀ (i : Nat) (v : am_V), lv[i]? = some (some v) → (i, am_rv ad v) ∈ l) : am_L ls nL ad lv :=
  ⟨h.1, h.2.1, fun i v hv => h.2.2 _ (hl i v hv), hn⟩
theorem am_nl_ok {lv : List (Option am_V)} {i j : Nat} {v : am_V} (h : am_nl lv i = true) (hv : lv[j]? = some (some v)) (hj : j + 1 = i) (ad : Nat → Nat) : ¬ (am_rv ad v).category = 2 := by
  subst hj
  rw [am_cat_rv]
  unfold am_nl at h
  simp only [hv] at h
  rcases v with z | z | k
  · simp [am_cat]
  · simp at h
  · simp [am_cat]
theorem am_L1 {nL i : Nat} {ad : Nat → Nat} {lv : List (Option am_V)} {v : am_V} {ls' : Array Slot} (hlen : lv.length = nL) (hn : am_nl lv i = true) (h : lv_has ls' nL ((i, am_rv ad v) :: (am_prs ad lv).filter (fun q => !(q.1 == i) && !(q.1 + 1 == i && q.2.category == 2)))) : am_L ls' nL ad (lv.set i (some v)) := by
  refine am_L.of h (by simp only [List.length_set]; exact hlen) fun j w hw => ?_
  by_cases hj : i = j
  · subst hj
    rw [List.getElem?_set] at hw
    simp only [if_true] at hw
    split at hw
    · have e : v = w := by simpa using hw
      subst e
      exact List.mem_cons_self
    · cases hw
  · rw [List.getElem?_set_ne hj] at hw
    refine List.mem_cons_of_mem _ (List.mem_filter.mpr ⟨am_prs_in.mpr ⟨w, hw, rfl⟩, ?_⟩)
    have h2 : ¬ (j + 1 = i ∧ (am_rv ad w).category = 2) := fun z => am_nl_ok hn hw z.1 ad z.2
    have h1 : ¬ j = i := fun z => hj z.symm
    simp only [Bool.and_eq_true, Bool.not_eq_true', beq_eq_false_iff_ne, ne_eq, Bool.and_eq_false_iff]
    refine ⟨h1, ?_⟩
    by_cases hx : j + 1 = i
    · exact Or.inr (fun z => h2 ⟨hx, z⟩)
    · exact Or.inl hx
theorem am_L2 {nL i : Nat} {ad : Nat → Nat} {lv : List (Option am_V)} {v : am_V} {ls' : Array Slot} (hlen : lv.length = nL) (hn : am_nl lv i = true) (h : lv_has ls' nL ((i, am_rv ad v) :: (am_prs ad lv).filter (fun q => !(q.1 == i) && (!(q.1 == i + 1) && !(q.1 + 1 == i && q.2.category == 2))))) : am_L ls' nL ad ((lv.set i (some v)).set (i + 1) none) := by
  refine am_L.of h (by simp only [List.length_set]; exact hlen) fun j w hw => ?_
  by_cases hj1 : i + 1 = j
  · subst hj1
    rw [List.getElem?_set] at hw
    simp only [if_true] at hw
    split at hw <;> simp at hw
  · rw [List.getElem?_set_ne hj1] at hw
    by_cases hj : i = j
    · subst hj
      rw [List.getElem?_set] at hw
      simp only [if_true] at hw
      split at hw
      · have e : v = w := by simpa using hw
        subst e
        exact List.mem_cons_self
      · cases hw
    · rw [List.getElem?_set_ne hj] at hw
      refine List.mem_cons_of_mem _ (List.mem_filter.mpr ⟨am_prs_in.mpr ⟨w, hw, rfl⟩, ?_⟩)
      have h2 : ¬ (j + 1 = i ∧ (am_rv ad w).category = 2) := fun z => am_nl_ok hn hw z.1 ad z.2
      have h1 : ¬ j = i := fun z => hj z.symm
      have h3 : ¬ j = i + 1 := fun z => hj1 z.symm
      simp only [Bool.and_eq_true, Bool.not_eq_true', beq_eq_false_iff_ne, ne_eq, Bool.and_eq_false_iff]
      refine ⟨h1, h3, ?_⟩
      by_cases hx : j + 1 = i
      · exact Or.inr (fun z => h2 ⟨hx, z⟩)
      · exact Or.inl hx
/-- fields of an object of the world -/
theorem am_ob {ad : Nat → Nat} {ca : Nat → ClassId} {μ : am_N} {k t c : Nat} {fs : List Nat} (h : am_sh[k]? = some (t, fs)) (ht : t = c + 2) : (am_ws ad ca μ)[k]? = some (ad k, .inr (c, fs.mapIdx (am_fv ad (μ k)))) := by
  rw [am_ws_at h]; subst ht; rfl
theorem am_ob_at {ad : Nat → Nat} {f : Nat → Int} {fs : List Nat} {b x : Nat} (h : fs[b]? = some x) : (fs.mapIdx (am_fv ad f))[b]? = some (am_fv ad f b x) := by
  rw [List.getElem?_mapIdx, h]; rfl
theorem am_ob_set {ad : Nat → Nat} {ca : Nat → ClassId} {μ : am_N} {k t c b : Nat} {fs : List Nat} {v : Int} (h : am_sh[k]? = some (t, fs)) (ht : t = c + 2) (hb : fs[b]? = some 0) :
    (am_ws ad ca μ).set k (ad k, .inr (c, (fs.mapIdx (am_fv ad (μ k))).set b (.int (Int32.ofInt v)))) = am_ws ad ca (am_up μ k b v) := by
  refine am_ws_set h ?_
  subst ht
  show _ = (Sum.inr (c, fs.mapIdx (am_fv ad (am_up μ k b v k))) : va_E)
  congr 2
  apply List.ext_getElem?
  intro i
  by_cases hi : b = i
  · subst hi
    rw [List.getElem?_set_self (by rw [List.length_mapIdx]; exact (List.getElem?_eq_some_iff.mp hb).1), am_ob_at hb]
    simp [am_fv, am_up]
  · rw [List.getElem?_set_ne hi, List.getElem?_mapIdx, List.getElem?_mapIdx]
    cases hq : fs[i]? with
    | none => rfl
    | some w =>
      cases w with
      | zero => simp [am_fv, am_up, if_neg (fun z : i = b => hi z.symm)]
      | succ w => rfl
theorem am_ar {ad : Nat → Nat} {ca : Nat → ClassId} {μ : am_N} {k n : Nat} {r : List Nat} (h : am_sh[k]? = some (0, n :: r)) : (am_ws ad ca μ)[k]? = some (ad k, .inl (ca k, n, .inl (fun j => Int32.ofInt (μ k j)))) := by
  rw [am_ws_at h]; rfl
theorem am_ar_set {ad : Nat → Nat} {ca : Nat → ClassId} {μ : am_N} {k n i : Nat} {r : List Nat} {v : Int} (h : am_sh[k]? = some (0, n :: r)) :
    (am_ws ad ca μ).set k (ad k, .inl (ca k, n, .inl (upd (fun j => Int32.ofInt (μ k j)) i (Int32.ofInt v)))) = am_ws ad ca (am_up μ k i v) := by
  refine am_ws_set h ?_
  show _ = (Sum.inl (ca k, n, Sum.inl (fun j => Int32.ofInt (am_up μ k i v k j))) : va_E)
  congr 4
  funext j
  by_cases hj : j = i <;> simp [upd, am_up, hj]
theorem am_arq {ad : Nat → Nat} {ca : Nat → ClassId} {μ : am_N} {k : Nat} {fs : List Nat} (h : am_sh[k]? = some (1, fs)) : (am_ws ad ca μ)[k]? = some (ad k, .inl (ca k, fs.length, .inr (.inr (.inr (.inr (fun i => (fs[i]?).map ad)))))) := by
  rw [am_ws_at h]; rfl
theorem am_tag_ok {k c : Nat} (h : am_tag k = c + 2) : ∃ fs, am_sh[k]? = some (c + 2, fs) := by
  unfold am_tag at h
  cases hq : am_sh[k]? with
  | none => rw [hq] at h; simp at h
  | some q => rw [hq] at h; exact ⟨q.2, by rw [← h]; rfl⟩
