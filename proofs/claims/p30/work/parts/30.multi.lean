/-! new int[n][m] on the machine: the outer array first, then one inner array after the other, each put into its place -/
def nm_o (cA : ClassId) (N a i : Nat) : Cell := arrV cA N (fun j => va_rf (if j < i then some (a + 1 + j) else none))
def nm_i (cy : ClassId) (M : Nat) : Cell := arrV cy M (fun _ => .int 0)
theorem nm_i_rep (cy : ClassId) (M : Nat) : ({ cls := cy, slots := Array.replicate M (.int 0), vm := .none } : Cell) = nm_i cy M := arrV_new cy M _
theorem nm_o_rep (cA : ClassId) (N a : Nat) : ({ cls := cA, slots := Array.replicate N .null, vm := .none } : Cell) = nm_o cA N a 0 := by
  rw [arrV_new]
  exact congrArg (arrV cA N) (funext fun j => by simp [va_rf])
theorem nm_o_put (cA : ClassId) (N a i : Nat) : (nm_o cA N a i).setSlot i (.ref (a + 1 + i)) = nm_o cA N a (i + 1) := by
  unfold nm_o
  rw [arrV_store]
  refine congrArg (arrV cA N) (funext fun j => ?_)
  unfold updV
  by_cases e : j = i
  · rw [if_pos e, e, if_pos (Nat.lt_succ_self i)]; rfl
  · rw [if_neg e]
    by_cases h : j < i
    · show va_rf (if j < i then some (a + 1 + j) else none) = _
      rw [if_pos h, if_pos (Nat.lt_succ_of_lt h)]
    · show va_rf (if j < i then some (a + 1 + j) else none) = _
      rw [if_neg h, if_neg (by omega)]
/-- the state when i inner arrays stand -/
def nm_s (s : State) (cA cy : ClassId) (N M : Nat) : Nat → State
  | 0 => s.pushCell (nm_o cA N s.heap.size 0)
  | i + 1 => ((nm_s s cA cy N M i).pushCell (nm_i cy M)).setCell s.heap.size (nm_o cA N s.heap.size (i + 1))
theorem nm_osz (cA : ClassId) (N a i : Nat) : (nm_o cA N a i).slots.size = N := arrV_size _ _ _
theorem nm_isz (cy : ClassId) (M : Nat) : (nm_i cy M).slots.size = M := arrV_size _ _ _
theorem nm_is (s : State) (cA cy : ClassId) (N M : Nat) : ∀ i, (nm_s s cA cy N M i).heap.size = s.heap.size + 1 + i ∧ (nm_s s cA cy N M i).heap[s.heap.size]? = some (nm_o cA N s.heap.size i) ∧ (nm_s s cA cy N M i).vm = s.vm ∧ (nm_s s cA cy N M i).slotsUsed = s.slotsUsed + N + i * M
  | 0 => ⟨by simp [nm_s], by simp [nm_s], rfl, by simp [nm_s, nm_osz]⟩
  | i + 1 => by
    obtain ⟨z, o, v, u⟩ := nm_is s cA cy N M i
    have lt : s.heap.size < (nm_s s cA cy N M i).heap.size := by omega
    have o' : ((nm_s s cA cy N M i).pushCell (nm_i cy M)).heap[s.heap.size]? = some (nm_o cA N s.heap.size i) := by rw [State.heap_pushCell_of_lt (h := lt)]; exact o
    refine ⟨?_, State.heap_setCell_self o', by simp [nm_s, v], ?_⟩
    · simp [nm_s, State.setCell, z]; omega
    · simp [nm_s, u, nm_isz, Nat.succ_mul]; omega
theorem nm_top (s : State) (f : JFrame) (cA cy : ClassId) (N M : Nat) : ∀ i, nm_s (s.setTop f) cA cy N M i = (nm_s s cA cy N M i).setTop f
  | 0 => rfl
  | i + 1 => by simp only [nm_s, nm_top s f cA cy N M i, State.heap_setTop, State.pushCell_setTop, State.setCell_setTop]
theorem nm_old (s : State) (cA cy : ClassId) (N M : Nat) {a : Nat} (ha : a < s.heap.size) : ∀ i, (nm_s s cA cy N M i).heap[a]? = s.heap[a]?
  | 0 => State.heap_pushCell_of_lt _ _ ha
  | i + 1 => by
    have z := (nm_is s cA cy N M i).1
    have lt : a < (nm_s s cA cy N M i).heap.size := by omega
    show (((nm_s s cA cy N M i).pushCell (nm_i cy M)).setCell s.heap.size _).heap[a]? = _
    rw [State.heap_setCell_other (Nat.ne_of_gt ha), State.heap_pushCell_of_lt (h := lt)]
    exact nm_old s cA cy N M ha i
theorem nm_row (s : State) (cA cy : ClassId) (N M : Nat) : ∀ i j, j < i → (nm_s s cA cy N M i).heap[s.heap.size + 1 + j]? = some (nm_i cy M)
  | 0, _, h => absurd h (Nat.not_lt_zero _)
  | i + 1, j, h => by
    have z := (nm_is s cA cy N M i).1
    show (((nm_s s cA cy N M i).pushCell (nm_i cy M)).setCell s.heap.size _).heap[s.heap.size + 1 + j]? = _
    rw [State.heap_setCell_other (show s.heap.size ≠ s.heap.size + 1 + j by omega)]
    by_cases e : j = i
    · subst e
      rw [← z]
      exact State.heap_pushCell_size _ _
    · have lt : s.heap.size + 1 + j < (nm_s s cA cy N M i).heap.size := by omega
      rw [State.heap_pushCell_of_lt (h := lt)]
      exact nm_row s cA cy N M i j (by omega)
section NM1
variable {E : CtlPost} {e : Env} {d : Bool} {acts : List Action} {s : State}
theorem nm_alloc {c comp : ClassId} {k : Class} {type : FieldType} {len : Nat} {init : Value} (hk : s.vm.classes[c]? = some k) (hkind : k.kind = .array comp type) (hl : ¬ len > e.platform.arrayLengthLimit) (hh : ¬ len * componentBytes type > e.platform.maxHeapBytes) (hfit : fits type init = true) (hdef : init.isDefault = true) {Q : Addr → Pre} (h1 : s.heap.size < e.platform.maxCells) (h2 : s.slotsUsed + len ≤ e.platform.maxSlots)
    (hq : Q s.heap.size d acts (s.pushCell { cls := c, slots := Array.replicate len init, vm := .none })) : wp (Jvm.newArray c len init) Q E e d acts s := by
  have g1 : ∀ (i : Nat) (v : Value), (Array.replicate len init)[i]? = some v → s.fitsSlot c .none i v = true := fun i v hv => by
    rw [Array.getElem?_replicate] at hv
    split at hv
    · cases hv; simp [State.fitsSlot, State.slotType?, hk, hkind, hfit]
    · cases hv
  have g2 : allocActs (Array.replicate len init) s.heap.size acts = acts := by
    unfold allocActs
    rw [if_pos (by rw [Array.all_replicate]; split <;> simp [hdef])]
  simp only [Jvm.newArray, Jvm.arrayFits, wp_bind', W.ask, W.ite, hl, if_false, wp_pure', W.theClass, hk, hkind, hh, W.alloc, W.stop, Option.some.injEq, exists_eq_left', Array.size_replicate, g2]
  rw [if_neg (by omega)]
  exact ⟨h1, h2, g1, hq⟩
/-- what the machine does for 'make' of two lengths, of ints -/
theorem nm_make {c comp cc : ClassId} {k kc : Class} {n m : Int32} {N M : Nat} (hN : n.toNatClampNeg = N) (hM : m.toNatClampNeg = M) (hk : s.vm.classes[c]? = some k) (hkind : k.kind = .array comp (.array .int)) (hkc : s.vm.classes[comp]? = some kc) (hkindc : kc.kind = .array cc .int) (hn : ¬ n < 0) (hm : ¬ m < 0)
    (hl1 : ¬ N > e.platform.arrayLengthLimit) (hh1 : ¬ N * 4 > e.platform.maxHeapBytes) (hl2 : ¬ M > e.platform.arrayLengthLimit) (hh2 : ¬ M * 4 > e.platform.maxHeapBytes) (hc : s.heap.size + 1 + N ≤ e.platform.maxCells) (hs : s.slotsUsed + N + N * M ≤ e.platform.maxSlots)
    {Q : Addr → Pre} (hq : ∀ d' acts', Q s.heap.size d' acts' (nm_s s c comp N M N)) : wp (multianewarray.make c [n, m]) Q E e d acts s := by
  subst hN
  subst hM
  have hf : ([m].find? (· < 0)) = none := by simp [hm]
  rw [multianewarray.make]
  simp only [wp_bind', W.ite, hn, if_false, wp_pure', W.theClass, hk, hkind, Option.some.injEq, exists_eq_left']
  refine nm_alloc hk hkind hl1 hh1 rfl rfl (by omega) (by omega) ?_
  rw [nm_o_rep c _ s.heap.size]
  simp only [hf]
  rw [ite_self, wp_bind', Std.Legacy.Range.forIn_eq_forIn_range']
  have hz : ([:n.toNatClampNeg] : Std.Legacy.Range).size = n.toNatClampNeg := by simp [Std.Legacy.Range.size]
  rw [hz]
  show wp (forIn (List.range' 0 n.toNatClampNeg 1) PUnit.unit _) _ E e d acts _
  refine wp_forIn_inv (fun rest s' => ∃ i, rest = List.range' i (n.toNatClampNeg - i) ∧ i ≤ n.toNatClampNeg ∧ s' = nm_s s c comp n.toNatClampNeg m.toNatClampNeg i) _ _ ⟨0, rfl, Nat.zero_le _, rfl⟩ ?_ ?_
  · rintro x rest s' d' acts' Q' ⟨i, hl, hi, rfl⟩ next
    have hlt : i < n.toNatClampNeg := Nat.lt_of_le_of_ne hi (fun z => by rw [z, Nat.sub_self] at hl; cases hl)
    rw [show n.toNatClampNeg - i = (n.toNatClampNeg - (i + 1)) + 1 by omega, List.range'_succ] at hl
    obtain ⟨rfl, hrest⟩ := List.cons.inj hl
    obtain ⟨z, o, v, u⟩ := nm_is s c comp n.toNatClampNeg m.toNatClampNeg x
    have hx : x * m.toNatClampNeg + m.toNatClampNeg ≤ n.toNatClampNeg * m.toNatClampNeg := by
      have q := Nat.mul_le_mul_right m.toNatClampNeg (show x + 1 ≤ n.toNatClampNeg from hlt)
      rwa [Nat.succ_mul] at q
    have hkc' : (nm_s s c comp n.toNatClampNeg m.toNatClampNeg x).vm.classes[comp]? = some kc := by rw [v]; exact hkc
    simp only [wp_bind']
    rw [multianewarray.make]
    simp only [wp_bind', W.ite, hm, if_false, wp_pure', W.theClass, hkc', hkindc, Option.some.injEq, exists_eq_left']
    refine nm_alloc hkc' hkindc hl2 hh2 rfl rfl (by rw [z]; omega) (by rw [u]; omega) ?_
    show wp _ _ E e d' acts' ((nm_s s c comp n.toNatClampNeg m.toNatClampNeg x).pushCell { cls := comp, slots := Array.replicate m.toNatClampNeg (.int 0), vm := .none })
    rw [nm_i_rep]
    simp only [wp_bind', W.writeLoc, wp_pure']
    have lt : s.heap.size < (nm_s s c comp n.toNatClampNeg m.toNatClampNeg x).heap.size := by omega
    refine ⟨nm_o c n.toNatClampNeg s.heap.size x, by rw [State.heap_pushCell_of_lt (h := lt)]; exact o, by simp [nm_o, arrV], by rw [nm_osz]; exact hlt, ?_, next _ _ _ ⟨x + 1, hrest, hlt, ?_⟩⟩
    · simp [nm_o, arrV, State.fitsSlot, State.slotType?, v, hk, hkind, fits]
    · rw [z, nm_o_put]; rfl
  · rintro s' d' acts' ⟨i, hl, hi, rfl⟩
    have e : i = n.toNatClampNeg := Nat.le_antisymm hi (Nat.not_lt.mp fun h => by rw [show n.toNatClampNeg - i = (n.toNatClampNeg - (i + 1)) + 1 by omega, List.range'_succ] at hl; cases hl)
    subst e
    simp only [wp_pure']
    exact hq _ _
end NM1
/-- an int[] has been made an element of an array before -/
def nm_AO (U : State) : Prop := (Cond.arrayOver (.array .int)).before #[] U = true
theorem nm_AO.use {A : Array Value} {U : State} (h : nm_AO U) : (Cond.arrayOver (.array .int)).before A U = true := h
theorem nm_AO.of {A : Array Value} {U : State} (h : (Cond.arrayOver (.array .int)).before A U = true) : nm_AO U := h
theorem nm_AO.moved {u U : State} (hvm : u.vm.Alike U.vm) (h : nm_AO u) : nm_AO U := over_moved (a := #[]) (a' := #[]) hvm h
section NM2
variable {p : Program} {l : Launch} {e : Env} {R : Room} {s : State} {m : MethodId} {args : Array Value} {below : List Frame} {meth : Method} {c : Code} {H : Heap} {locs : List Loc} {cells slots : Nat} {Q : State → Prop}
variable {cc : ByteArray} {pc : Nat} {ls : Array Slot} {rest : List Value} {D : va_G} {cl : List vw_C} {A : Nat → Prop} {tys : List (ClassId × FieldType)} {ws : va_W} {H0 : Heap}
theorem nm_stand {T : State} (X : Stand p l e R s m args below meth c T locs cells slots) (cA cy : ClassId) (N M : Nat) : ∀ i, ∃ L : List Loc, (∀ q ∈ L, q.base = T.heap.size) ∧ Stand p l e R s m args below meth c (nm_s T cA cy N M i) (locs ++ L) (cells + 1 + i) (slots + N + i * M)
  | 0 => by
    have h := X.pushed (nm_o cA N T.heap.size 0)
    rw [nm_osz] at h
    exact ⟨[], (fun _ z => by cases z), by simpa [nm_s] using h⟩
  | i + 1 => by
    obtain ⟨L, hL, Xi⟩ := nm_stand X cA cy N M i
    obtain ⟨z, o, v, u⟩ := nm_is T cA cy N M i
    have o' : ((nm_s T cA cy N M i).pushCell (nm_i cy M)).heap[T.heap.size]? = some (nm_o cA N T.heap.size i) := by
      have lt : T.heap.size < (nm_s T cA cy N M i).heap.size := by omega
      rw [State.heap_pushCell_of_lt (h := lt)]; exact o
    have h := (Xi.pushed (nm_i cy M)).stored o' i (.ref (T.heap.size + 1 + i))
    rw [nm_isz, nm_o_put] at h
    refine ⟨L ++ [⟨T.heap.size, i⟩], fun q hq => ?_, ?_⟩
    · rcases List.mem_append.mp hq with g | g
      · exact hL q g
      · rw [List.mem_singleton.mp g]
    · rw [← List.append_assoc, show slots + N + (i + 1) * M = slots + N + i * M + M by rw [Nat.succ_mul]; omega]
      exact h
theorem nm_new (hexec : p.tables.exec = Jvm.exec) (hb : c.code = cc) {own : String} {index : Nat} (hown : s.vm.findClass own = some m.cls) (hclink : (Cond.classLink own index "[[I").before args s = true) (hover : nm_AO s) (harr : (Cond.arrayClass .int).before args s = true)
    (hK : va_K D cl tys s) (hP : va_P D cl ws H) (hD : va_D A ws) (hS : va_S A H0 H locs) (hA : ∀ q, H0.size ≤ q → A q) {n k : Int32} {N M : Nat} (hN : n.toNatClampNeg = N) (hM : k.toNatClampNeg = M) (hn : ¬ n < 0) (hk : ¬ k < 0) (hb1 : N * 4 ≤ 536870912) (hb2 : M * 4 ≤ 536870912) (hcells : cells + (1 + N) ≤ R.cells) (hslots : slots + (N + N * M) ≤ R.slots) (hdg : decode cc pc = .ok (.multianewarray index 2, 4))
    (kk : ∀ (q : Nat) (cA cy : ClassId) (H1 : Heap) (locs1 : List Loc), va_K D cl (tys ++ [(cA, .array .int), (cy, .int)]) s → va_P D cl (ws ++ ((q, .inl (cA, N, .inr (.inr (.inr (.inr (fun i => if i < N then some (q + 1 + i) else none)))))) :: (List.range N).map (fun i => (q + 1 + i, .inl (cy, M, .inl (fun _ => Int32.ofInt 0)))))) H1 → va_D A (ws ++ ((q, .inl (cA, N, .inr (.inr (.inr (.inr (fun i => if i < N then some (q + 1 + i) else none)))))) :: (List.range N).map (fun i => (q + 1 + i, .inl (cy, M, .inl (fun _ => Int32.ofInt 0)))))) → va_S A H0 H1 locs1 →
      W p l e R s m args below meth c H1 locs1 (cells + 1 + N) (slots + N + N * M) Q (F0 m (pc + 4) ls (.ref q :: rest))) : W p l e R s m args below meth c H locs cells slots Q (F0 m pc ls (.int k :: .int n :: rest)) := by
  simp only [am_0] at kk
  intro T hT X
  subst hT
  subst hb
  have hpl : e.platform.magicAccessors = ({} : Platform).magicAccessors := by rw [X.admits.platform]
  obtain ⟨comp, cA, kA, hcomp, -, hkA, hkindA, hnameA⟩ := arrayOverA_spec (nm_AO.use (A := args) hover)
  obtain ⟨comp', kC, c0, hcomp', hkC, hkindC⟩ := Cond.arrayClass_spec harr
  have ecomp : comp' = comp := Option.some.inj (hcomp'.symm.trans hcomp)
  subst ecomp
  obtain ⟨c1, hfc1, hcl⟩ := Cond.classLink_spec hown hclink e.platform hpl
  have ec1 : cA = c1 := Option.some.inj (hnameA.symm.trans hfc1)
  subst ec1
  obtain ⟨hg₁, hwarm₁, hready₁⟩ := State.classEntry (e := e) X.warmed hcl
  generalize T.vm.noted m.cls index (.cls cA) = vm₁ at hg₁ hwarm₁ hready₁
  have hal : s.vm.Alike vm₁ := hwarm₁.alike
  obtain ⟨kA₁, hkA₁, heA⟩ := hal.2.2 _ _ hkA
  obtain ⟨kC₁, hkC₁, heC⟩ := hal.2.2 _ _ hkC
  have X₁ := X.noted hwarm₁
  obtain ⟨hr1, hr2⟩ := X.roomAbove hcells hslots
  obtain ⟨L, hL, XF⟩ := nm_stand X₁ cA comp' N M N
  obtain ⟨z, o, v, u⟩ := nm_is (T.setVm vm₁) cA comp' N M N
  have hlt : ∀ (k9 : Nat) (x : Nat × va_E), ws[k9]? = some x → x.1 < T.heap.size := fun k9 x hx => (hP k9 x hx).lt
  have hrow := nm_row (T.setVm vm₁) cA comp' N M N
  have at1 : ∀ (k9 : Nat) (x : Nat × va_E), ((List.range N).map (fun i => ((T.heap.size + 1 + i, .inl (comp', M, .inl (fun _ => 0))) : Nat × va_E)))[k9]? = some x → k9 < N ∧ x = (T.heap.size + 1 + k9, .inl (comp', M, .inl (fun _ => 0))) := fun k9 x hx => by
    rw [List.getElem?_map] at hx
    by_cases h9 : k9 < N
    · rw [List.getElem?_range h9] at hx
      cases hx
      exact ⟨h9, rfl⟩
    · rw [List.getElem?_eq_none (by rw [List.length_range]; omega)] at hx
      cases hx
  have at2 : ∀ (k9 : Nat) (x : Nat × va_E), (((T.heap.size, .inl (cA, N, .inr (.inr (.inr (.inr (fun i => if i < N then some (T.heap.size + 1 + i) else none)))))) : Nat × va_E) :: (List.range N).map (fun i => ((T.heap.size + 1 + i, .inl (comp', M, .inl (fun _ => 0))) : Nat × va_E)))[k9]? = some x → x.1 = T.heap.size + k9 := fun k9 x hx => by
    cases k9 with
    | zero => cases hx; rfl
    | succ k9 =>
      obtain ⟨-, rfl⟩ := at1 k9 x hx
      show T.heap.size + 1 + k9 = T.heap.size + (k9 + 1)
      omega
  obtain ⟨t, a1, b1⟩ := kk T.heap.size cA comp' (nm_s (T.setVm vm₁) cA comp' N M N).heap (locs ++ L)
    (va_K.app hK ⟨hK.1, fun k9 x hx => by
      match k9, hx with
      | 0, hx =>
        cases hx
        exact ⟨fun n9 z9 => ⟨fun y => by simp [arrV], kA, hkA, comp', hkindA⟩, hnameA⟩
      | 1, hx =>
        cases hx
        exact ⟨fun n9 z9 => ⟨fun y => by simp [arrV], kC, hkC, c0, hkindC⟩, hcomp'⟩
      | k9 + 2, hx => simp at hx⟩)
    (va_P.app (hP.kept (fun k9 x hx => nm_old (T.setVm vm₁) cA comp' N M (hlt k9 x hx) N)) (fun k9 x hx => by
      cases k9 with
      | zero => cases hx; exact o
      | succ k9 =>
        obtain ⟨h9, rfl⟩ := at1 k9 x hx
        exact hrow k9 h9))
    (va_D.app hD ⟨fun i j x y hx hy hxy => by
      have e1 := at2 i x hx
      have e2 := at2 j y hy
      omega, fun k9 x hx => hA _ (by have e1 := at2 k9 x hx; have := hS.1; omega)⟩ (fun i j x y hx hy hxy => by
      have e1 := hlt i x hx
      have e2 := at2 j y hy
      omega))
    ⟨Nat.le_trans hS.1 (by show T.heap.size ≤ _; rw [z]; show T.heap.size ≤ T.heap.size + 1 + N; omega), fun x h1 h2 => (nm_old (T.setVm vm₁) cA comp' N M (show x < T.heap.size from Nat.lt_of_lt_of_le h1 hS.1) N).trans (hS.2.1 x h1 h2), fun q hq => by
      rcases List.mem_append.mp hq with g | g
      · exact hS.2.2 q g
      · rw [hL q g]; exact hA _ hS.1⟩ _ rfl XF
  refine ⟨t, ?_, b1⟩
  have hl1 : ¬ N > e.platform.arrayLengthLimit := by rw [Launch.admits_arrayLengthLimit X.admits]; omega
  have hh1 : ¬ N * 4 > e.platform.maxHeapBytes := by rw [Launch.admits_maxHeapBytes X.admits]; omega
  have hl2 : ¬ M > e.platform.arrayLengthLimit := by rw [Launch.admits_arrayLengthLimit X.admits]; omega
  have hh2 : ¬ M * 4 > e.platform.maxHeapBytes := by rw [Launch.admits_maxHeapBytes X.admits]; omega
  jvm_step X.here [hexec, hdg]
  simp only [multianewarray.sem, wp_bind', W.resolveClassAt_links (State.method?_setTop (F0 m pc ls (.int k :: .int n :: rest)) X.here.top) hg₁]
  rw [W.popN, if_neg (by decide)]
  refine ⟨F0 m pc ls (.int k :: .int n :: rest), State.topJava?_setTop' (s := T.setVm vm₁) _ X.here.top, [.int n, .int k], rest, rfl, rfl, ?_⟩
  simp only [List.mapM_cons, List.mapM_nil, wp_bind', wp_pure']
  refine nm_make (k := kA₁) (kc := kC₁) (comp := comp') (cc := c0) hN hM hkA₁ (by rw [heA]; exact hkindA) hkC₁ (by rw [heC]; exact hkindC) hn hk hl1 hh1 hl2 hh2 (by show T.heap.size + 1 + _ ≤ _; omega) (by show T.slotsUsed + _ + _ ≤ _; omega) (fun d' acts' => ?_)
  have eS : ((T.setTop (F0 m pc ls (.int k :: .int n :: rest))).setVm vm₁).setTop { (F0 m pc ls (.int k :: .int n :: rest)) with stack := rest } = (T.setVm vm₁).setTop { (F0 m pc ls (.int k :: .int n :: rest)) with stack := rest } := by
    show ((T.setVm vm₁).setTop _).setTop _ = _
    rw [State.setTop_setTop]
  rw [eS, nm_top]
  simp only [wp_bind', W.mark, W.pushRef, State.topJava?_setTop' _ XF.here.top, Option.some.injEq, exists_eq_left', State.setTop_setTop, State.heap_setTop]
  intro acts
  simp [jvm, XF.here.top]
  exact a1
end NM2
theorem nw_ha (cA : ClassId) (n : Nat) : vp_cell cA (n, .inl (fun _ => Int32.ofInt 0)) = arrV cA n (fun _ => defaultValue .int) := by
  rw [am_0]; rfl
def nw_l : List Nat → Nat → Nat
  | [], _ => 0
  | x :: _, 0 => x
  | _ :: r, k + 1 => nw_l r k
theorem nw_f6 (q : Nat) : (fun i : Nat => if i < 6 then some (q + 1 + i) else none) = fun i => ([q + 1 + 0, q + 1 + 1, q + 1 + 2, q + 1 + 3, q + 1 + 4, q + 1 + 5] : List Nat)[i]? := funext fun i => by
  match i with
  | 0 | 1 | 2 | 3 | 4 | 5 => rfl
  | i + 6 =>
    rw [if_neg (by omega)]
    rfl
theorem nw_f3 (q : Nat) : (fun i : Nat => if i < 3 then some (q + 1 + i) else none) = fun i => ([q + 1 + 0, q + 1 + 1, q + 1 + 2] : List Nat)[i]? := funext fun i => by
  match i with
  | 0 | 1 | 2 => rfl
  | i + 3 =>
    rw [if_neg (by omega)]
    rfl
theorem nw_good {w : Cond} (h : w ∈ am_big) : GoodIn am_big (w :: am_big) := fun v hv => by
  have h1 : v ∈ am_big := by
    rcases List.mem_cons.mp hv with e | e
    · rw [e]; exact h
    · exact e
  exact ⟨h1, good_of_word (List.all_eq_true.mp am_big_good v h1)⟩
/-- behind a call on the last cells: the others, and what the call made of them -/
theorem nw_join {A0 : Nat → Prop} {D : va_G} {cl : List vw_C} {X wc w1 : va_W} {H H1 : Heap} (hP : va_P D cl (X ++ wc) H) (hD : va_D A0 (X ++ wc)) (hk : ∀ q : Nat, q < H.size → ¬ va_A wc H.size q → H1[q]? = H[q]?) (hF : ∀ q, va_A wc H.size q → A0 q) (hP1 : va_P D cl w1 H1) (hD1 : va_D (va_A wc H.size) w1) : va_P D cl (X ++ w1) H1 ∧ va_D A0 (X ++ w1) := by
  have at1 : ∀ (k : Nat) (q : Nat × va_E), X[k]? = some q → (X ++ wc)[k]? = some q := fun k q hq => by
    rw [List.getElem?_append_left (List.getElem?_eq_some_iff.mp hq).1]; exact hq
  have apart : ∀ (k : Nat) (q : Nat × va_E), X[k]? = some q → q.1 < H.size ∧ ¬ va_A wc H.size q.1 := fun k q hq => by
    have hl := (hP k q (at1 k q hq)).lt
    refine ⟨hl, fun h => ?_⟩
    rcases h with ⟨k2, e, h⟩ | h
    · have h2 : (X ++ wc)[X.length + k2]? = some (q.1, e) := by
        rw [List.getElem?_append_right (by omega), show X.length + k2 - X.length = k2 by omega]; exact h
      have hij := hD.1 k (X.length + k2) q (q.1, e) (at1 k q hq) h2 rfl
      have := (List.getElem?_eq_some_iff.mp hq).1
      omega
    · omega
  refine ⟨va_P.app (fun k q hq => ?_) hP1, va_D.app ⟨fun i j p q hp hq e => hD.1 i j p q (at1 i p hp) (at1 j q hq) e, fun k q hq => hD.2 k q (at1 k q hq)⟩ (hD1.weaken (fun k q _ h => hF q.1 h)) (fun i j x y hx hy hxy => ?_)⟩
  · obtain ⟨g1, g2⟩ := apart k q hq
    exact (hP k q (at1 k q hq)).kept (hk q.1 g1 g2)
  · exact (apart i x hx).2 (by rw [hxy]; exact hD1.2 j y hy)
theorem nw_right {D : va_G} {cl : List vw_C} {X wc : va_W} {H : Heap} (h : va_P D cl (X ++ wc) H) : va_P D cl wc H := fun k q hq => h (X.length + k) q (by rw [List.getElem?_append_right (by omega), show X.length + k - X.length = k by omega]; exact hq)
theorem nw_rightD {A : Nat → Prop} {X wc : va_W} (h : va_D A (X ++ wc)) : va_D A wc := by
  have e : ∀ (k : Nat) (q : Nat × va_E), wc[k]? = some q → (X ++ wc)[X.length + k]? = some q := fun k q hq => by rw [List.getElem?_append_right (by omega), show X.length + k - X.length = k by omega]; exact hq
  exact ⟨fun i j p q hp hq z => by have := h.1 _ _ p q (e i p hp) (e j q hq) z; omega, fun k q hq => h.2 _ q (e k q hq)⟩
theorem nw_free {A0 : Nat → Prop} {X wc : va_W} {H0 H : Heap} {locs : List Loc} (hD : va_D A0 (X ++ wc)) (hS : va_S A0 H0 H locs) (hA : ∀ q, H0.size ≤ q → A0 q) : ∀ q, va_A wc H.size q → A0 q := fun q h => by
  rcases h with ⟨k, e, h⟩ | h
  · exact (nw_rightD hD).2 k (q, e) h
  · exact hA q (Nat.le_trans hS.1 h)
/-! the constructors: their words, what they make -/
def nw_ws0 : List Cond := [.methodLink RX0 3 objectInit, .instanceMethod objectInit, .code objectInit ⟨#[0xb1]⟩ 1 none, .fieldLink RX0 9 "HeadStart$Field" "way" "I", .fieldLink RX0 15 "HeadStart$Field" "week" "I", .fieldLink RX0 18 "HeadStart$Field" "rule" "I", .fieldLink RX0 21 "HeadStart$Field" "yard" "I", .fieldLink RX0 24 "HeadStart$Field" "n" "I", .arrayClass .int, .fieldLink RX0 27 "HeadStart$Field" "kind" "[I", .fieldLink RX0 31 "HeadStart$Field" "figure" "[I", .fieldLink RX0 34 "HeadStart$Field" "pace" "[I", .fieldLink RX0 37 "HeadStart$Field" "spread" "[I", .fieldLink RX0 40 "HeadStart$Field" "start" "[I", .fieldLink RX0 43 "HeadStart$Field" "wins" "[I", .methodLink RX2 3 objectInit, .fieldLink RX2 9 "HeadStart$Race" "n" "I", .fieldLink RX2 15 "HeadStart$Race" "low" "[I", .fieldLink RX2 19 "HeadStart$Race" "mid" "[I", .fieldLink RX2 22 "HeadStart$Race" "high" "[I", .fieldLink RX2 25 "HeadStart$Race" "tenths" "[I", .fieldLink RX2 28 "HeadStart$Race" "places" "[I", .methodLink RX3 1 objectInit, .fieldLink RX3 7 "HeadStart$Row" "n" "I", .methodLink RX3 13 Lib.Math.max.name, .static Lib.Math.max.name, .initialized "java/lang/Math", .code Lib.Math.max.name Lib.Math.max.code 2 (some .int), .fieldLink RX3 19 "HeadStart$Row" "cells" "[I", .methodLink RX4 3 objectInit]
set_option maxRecDepth 20000 in
theorem nw_in0 : ∀ w ∈ nw_ws0, w ∈ am_big := am_big_of (ps := [(0, 23), (0, 16), (0, 17), (0, 24), (0, 27), (0, 32), (0, 35), (0, 38), (0, 88), (0, 43), (0, 46), (0, 49), (0, 52), (0, 56), (0, 60), (0, 94), (0, 95), (0, 97), (0, 98), (0, 99), (0, 100), (0, 102), (0, 127), (0, 132), (0, 128), (0, 129), (0, 6), (0, 130), (0, 131), (0, 174)]) rfl rfl
def nw_ws1 : List Cond := [.classLink RX4 11 "[[I", .fieldLink RX4 13 "HeadStart$Runs" "starts" "[[I", .fieldLink RX4 16 "HeadStart$Runs" "wins" "[[I", .fieldLink RX4 19 "HeadStart$Runs" "weeks" "[I", .fieldLink RX4 23 "HeadStart$Runs" "n" "I", .methodLink RX7 1 objectInit, .fieldLink RX7 7 "HeadStartModel" "refused" "[I", .fieldLink RX7 13 "HeadStartModel" "kind" "[I", .fieldLink RX7 16 "HeadStartModel" "figure" "[I", .fieldLink RX7 19 "HeadStartModel" "pace" "[I", .fieldLink RX7 22 "HeadStartModel" "spread" "[I", .fieldLink RX7 25 "HeadStartModel" "start" "[I", .fieldLink RX7 28 "HeadStartModel" "wins" "[I", .fieldLink RX7 31 "HeadStartModel" "bag" "[I", .fieldLink RX7 34 "HeadStartModel" "clauseWhom" "[I", .fieldLink RX7 37 "HeadStartModel" "clauseYards" "[I", .fieldLink RX7 40 "HeadStartModel" "way" "I", .fieldLink RX7 44 "HeadStartModel" "yard" "I", .fieldLink RX7 47 "HeadStartModel" "tape" "[I", .fieldLink RX7 50 "HeadStartModel" "letter" "[I", .fieldLink RX7 53 "HeadStartModel" "letterAt" "[I", .fieldLink RX7 56 "HeadStartModel" "told" "[I", .fieldLink RX7 59 "HeadStartModel" "kept" "[I", .fieldLink RX7 62 "HeadStartModel" "takes" "[I", .fieldLink RX7 65 "HeadStartModel" "order" "[I", .fieldLink RX7 68 "HeadStartModel" "backStarts" "[I", .fieldLink RX7 71 "HeadStartModel" "backWins" "[I", .fieldLink RX7 74 "HeadStartModel" "backWeek" "[I", .fieldLink RX7 77 "HeadStartModel" "firsts" "[I", .fieldLink RX7 80 "HeadStartModel" "tenths" "[I"]
set_option maxRecDepth 20000 in
theorem nw_in1 : ∀ w ∈ nw_ws1, w ∈ am_big := am_big_of (ps := [(0, 175), (0, 177), (0, 178), (0, 179), (0, 180), (3, 119), (3, 120), (3, 121), (3, 122), (3, 123), (3, 124), (3, 125), (3, 126), (3, 127), (3, 128), (3, 129), (3, 130), (3, 133), (3, 137), (3, 138), (3, 139), (3, 140), (3, 144), (3, 148), (3, 149), (3, 150), (3, 151), (3, 152), (3, 154), (3, 159)]) rfl rfl
def nw_ws2 : List Cond := [.fieldLink RX7 83 "HeadStartModel" "row" "[I", .methodLink RX1 1 objectInit, .classLink RX1 7 RX3, .instantiable RX3 2, .initialized RX3, .code yX3_init cX3_init 2 none, .methodLink RX1 9 yX3_init, .instanceMethod yX3_init, .fieldLink RX1 12 "HeadStart$Habit" "whom" "LHeadStart$Row;", .fieldLink RX1 18 "HeadStart$Habit" "yards" "LHeadStart$Row;", .methodLink RX5 3 objectInit, .classLink RX5 9 RX3, .methodLink RX5 11 yX3_init, .fieldLink RX5 14 "HeadStart$Teller" "letters" "LHeadStart$Row;", .classLink RX5 20 RX2, .instantiable RX2 6, .initialized RX2, .code yX2_init cX2_init 1 none, .methodLink RX5 22 yX2_init, .instanceMethod yX2_init, .fieldLink RX5 23 "HeadStart$Teller" "race" "LHeadStart$Race;", .methodLink RX6 1 objectInit, .classLink RX6 7 RX0, .instantiable RX0 11, .initialized RX0, .code yX0_init cX0_init 1 none, .methodLink RX6 9 yX0_init, .instanceMethod yX0_init, .fieldLink RX6 10 "HeadStart" "now" "LHeadStart$Field;", .fieldLink RX6 16 "HeadStart" "mind" "LHeadStart$Field;"]
set_option maxRecDepth 20000 in
theorem nw_in2 : ∀ w ∈ nw_ws2, w ∈ am_big := am_big_of (ps := [(3, 161), (0, 158), (0, 159), (0, 123), (0, 5), (0, 126), (0, 160), (0, 125), (0, 161), (0, 163), (0, 121), (0, 122), (0, 124), (0, 143), (0, 141), (0, 90), (0, 3), (0, 93), (0, 142), (0, 92), (0, 145), (0, 15), (0, 18), (0, 19), (0, 2), (0, 22), (0, 20), (0, 21), (0, 192), (0, 193)]) rfl rfl
def nw_ws3 : List Cond := [.fieldLink RX6 19 "HeadStart" "aside" "LHeadStart$Field;", .fieldLink RX6 22 "HeadStart" "saved" "LHeadStart$Field;", .classLink RX6 25 RX2, .methodLink RX6 27 yX2_init, .fieldLink RX6 28 "HeadStart" "race" "LHeadStart$Race;", .classLink RX6 32 RX5, .instantiable RX5 2, .initialized RX5, .code yX5_init cX5_init 1 none, .methodLink RX6 34 yX5_init, .instanceMethod yX5_init, .fieldLink RX6 35 "HeadStart" "teller" "LHeadStart$Teller;", .classLink RX6 39 RX3, .methodLink RX6 41 yX3_init, .fieldLink RX6 44 "HeadStart" "told" "LHeadStart$Row;", .fieldLink RX6 48 "HeadStart" "toldTimes" "LHeadStart$Row;", .fieldLink RX6 51 "HeadStart" "bags" "LHeadStart$Row;", .fieldLink RX6 54 "HeadStart" "savedBags" "LHeadStart$Row;", .classLink RX6 57 RX1, .instantiable RX1 2, .initialized RX1, .code yX1_init cX1_init 1 none, .methodLink RX6 59 yX1_init, .instanceMethod yX1_init, .fieldLink RX6 60 "HeadStart" "habit" "LHeadStart$Habit;", .fieldLink RX6 64 "HeadStart" "savedHabit" "LHeadStart$Habit;", .classLink RX6 67 RX4, .instantiable RX4 4, .initialized RX4, .code yX4_init cX4_init 1 none]
set_option maxRecDepth 20000 in
theorem nw_in3 : ∀ w ∈ nw_ws3, w ∈ am_big := am_big_of (ps := [(0, 194), (0, 195), (0, 89), (0, 91), (0, 196), (0, 116), (0, 117), (0, 4), (0, 120), (0, 118), (0, 119), (0, 197), (0, 151), (0, 152), (0, 198), (0, 199), (0, 200), (0, 201), (0, 153), (0, 154), (0, 7), (0, 157), (0, 155), (0, 156), (0, 202), (0, 203), (0, 169), (0, 170), (0, 8), (0, 173)]) rfl rfl
def nw_ws4 : List Cond := [.methodLink RX6 69 yX4_init, .instanceMethod yX4_init, .fieldLink RX6 70 "HeadStart" "runs" "LHeadStart$Runs;", .fieldLink RX6 74 "HeadStart" "refused" "[I", .classLink RX6 78 "[[I", .fieldLink RX6 80 "HeadStart" "table" "[[I", .fieldLink RX6 83 "HeadStart" "imaged" "Z", .classLink RL 7 RX6, .instantiable RX6 16, .initialized RX6, .code yX6_init cX6_init 1 none, .methodLink RL 9 yX6_init, .instanceMethod yX6_init, .classLink RL 10 RX7, .instantiable RX7 43, .initialized RX7, .code yX7_init cX7_init 1 none, .methodLink RL 12 yX7_init, .instanceMethod yX7_init]
set_option maxRecDepth 20000 in
theorem nw_in4 : ∀ w ∈ nw_ws4, w ∈ am_big := am_big_of (ps := [(0, 171), (0, 172), (0, 204), (0, 205), (0, 191), (0, 206), (0, 207), (0, 10), (0, 11), (0, 1), (0, 14), (0, 12), (0, 13), (3, 114), (3, 115), (0, 9), (3, 118), (3, 116), (3, 117)]) rfl rfl
def nwX0 (q : Nat) (u : Nat → Nat) (v : Nat → ClassId) : va_W := [(q, .inr (0, [.int (Int32.ofInt 100), .int (Int32.ofInt 0), .int (Int32.ofInt 0), .int (Int32.ofInt 2), .int (Int32.ofInt 0), .ref (u 0), .ref (u 1), .ref (u 2), .ref (u 3), .ref (u 4), .ref (u 5)])), (u 0, .inl (v 0, 4, .inl (fun _ => Int32.ofInt 0))), (u 1, .inl (v 1, 4, .inl (fun _ => Int32.ofInt 0))), (u 2, .inl (v 2, 4, .inl (fun _ => Int32.ofInt 0))), (u 3, .inl (v 3, 4, .inl (fun _ => Int32.ofInt 0))), (u 4, .inl (v 4, 4, .inl (fun _ => Int32.ofInt 0))), (u 5, .inl (v 5, 4, .inl (fun _ => Int32.ofInt 0)))]
def nkX0 (v : Nat → ClassId) : List (ClassId × FieldType) := [(v 0, .int), (v 1, .int), (v 2, .int), (v 3, .int), (v 4, .int), (v 5, .int)]
def nwX2 (q : Nat) (u : Nat → Nat) (v : Nat → ClassId) : va_W := [(q, .inr (2, [.int (Int32.ofInt 0), .ref (u 0), .ref (u 1), .ref (u 2), .ref (u 3), .ref (u 4)])), (u 0, .inl (v 0, 4, .inl (fun _ => Int32.ofInt 0))), (u 1, .inl (v 1, 4, .inl (fun _ => Int32.ofInt 0))), (u 2, .inl (v 2, 4, .inl (fun _ => Int32.ofInt 0))), (u 3, .inl (v 3, 4, .inl (fun _ => Int32.ofInt 0))), (u 4, .inl (v 4, 4, .inl (fun _ => Int32.ofInt 0)))]
def nkX2 (v : Nat → ClassId) : List (ClassId × FieldType) := [(v 0, .int), (v 1, .int), (v 2, .int), (v 3, .int), (v 4, .int)]
def nwX3 (N : Nat) (q : Nat) (u : Nat → Nat) (v : Nat → ClassId) : va_W := [(q, .inr (3, [.ref (u 0), .int (Int32.ofInt 0)])), (u 0, .inl (v 0, N, .inl (fun _ => Int32.ofInt 0)))]
def nkX3 (v : Nat → ClassId) : List (ClassId × FieldType) := [(v 0, .int)]
def nwX4 (q : Nat) (u : Nat → Nat) (v : Nat → ClassId) : va_W := [(q, .inr (4, [.ref (u 0), .ref (u 7), .ref (u 14), .int (Int32.ofInt 0)])), (u 0, .inl (v 0, 6, .inr (.inr (.inr (.inr (fun i => ([u 1, u 2, u 3, u 4, u 5, u 6] : List Nat)[i]?)))))), (u 1, .inl (v 1, 4, .inl (fun _ => Int32.ofInt 0))), (u 2, .inl (v 1, 4, .inl (fun _ => Int32.ofInt 0))), (u 3, .inl (v 1, 4, .inl (fun _ => Int32.ofInt 0))), (u 4, .inl (v 1, 4, .inl (fun _ => Int32.ofInt 0))), (u 5, .inl (v 1, 4, .inl (fun _ => Int32.ofInt 0))), (u 6, .inl (v 1, 4, .inl (fun _ => Int32.ofInt 0))), (u 7, .inl (v 2, 6, .inr (.inr (.inr (.inr (fun i => ([u 8, u 9, u 10, u 11, u 12, u 13] : List Nat)[i]?)))))), (u 8, .inl (v 3, 4, .inl (fun _ => Int32.ofInt 0))), (u 9, .inl (v 3, 4, .inl (fun _ => Int32.ofInt 0))), (u 10, .inl (v 3, 4, .inl (fun _ => Int32.ofInt 0))), (u 11, .inl (v 3, 4, .inl (fun _ => Int32.ofInt 0))), (u 12, .inl (v 3, 4, .inl (fun _ => Int32.ofInt 0))), (u 13, .inl (v 3, 4, .inl (fun _ => Int32.ofInt 0))), (u 14, .inl (v 4, 6, .inl (fun _ => Int32.ofInt 0)))]
def nkX4 (v : Nat → ClassId) : List (ClassId × FieldType) := [(v 0, .array .int), (v 1, .int), (v 2, .array .int), (v 3, .int), (v 4, .int)]
def nwX7 (q : Nat) (u : Nat → Nat) (v : Nat → ClassId) : va_W := [(q, .inr (7, [.ref (u 0), .ref (u 1), .ref (u 2), .ref (u 3), .ref (u 4), .ref (u 5), .ref (u 6), .ref (u 7), .ref (u 8), .ref (u 9), .int (Int32.ofInt 100), .int (Int32.ofInt 0), .int (Int32.ofInt 0), .int (Int32.ofInt 2), .int (Int32.ofInt 0), .int (Int32.ofInt 0), .int (Int32.ofInt 0), .ref (u 10), .ref (u 11), .ref (u 12), .ref (u 13), .int (Int32.ofInt 0), .int (Int32.ofInt 0), .int (Int32.ofInt 0), .ref (u 14), .int (Int32.ofInt 0), .int (Int32.ofInt 0), .int (Int32.ofInt 0), .ref (u 15), .ref (u 16), .ref (u 17), .ref (u 18), .ref (u 19), .int (Int32.ofInt 0), .ref (u 20), .int (Int32.ofInt 0), .int (Int32.ofInt 0), .int (Int32.ofInt 0), .int (Int32.ofInt 0), .ref (u 21), .int (Int32.ofInt 0), .ref (u 22), .int (Int32.ofInt 0)])), (u 0, .inl (v 0, 7, .inl (fun _ => Int32.ofInt 0))), (u 1, .inl (v 1, 4, .inl (fun _ => Int32.ofInt 0))), (u 2, .inl (v 2, 4, .inl (fun _ => Int32.ofInt 0))), (u 3, .inl (v 3, 4, .inl (fun _ => Int32.ofInt 0))), (u 4, .inl (v 4, 4, .inl (fun _ => Int32.ofInt 0))), (u 5, .inl (v 5, 4, .inl (fun _ => Int32.ofInt 0))), (u 6, .inl (v 6, 4, .inl (fun _ => Int32.ofInt 0))), (u 7, .inl (v 7, 6, .inl (fun _ => Int32.ofInt 0))), (u 8, .inl (v 8, 4, .inl (fun _ => Int32.ofInt 0))), (u 9, .inl (v 9, 4, .inl (fun _ => Int32.ofInt 0))), (u 10, .inl (v 10, 96, .inl (fun _ => Int32.ofInt 0))), (u 11, .inl (v 11, 48, .inl (fun _ => Int32.ofInt 0))), (u 12, .inl (v 12, 48, .inl (fun _ => Int32.ofInt 0))), (u 13, .inl (v 13, 240, .inl (fun _ => Int32.ofInt 0))), (u 14, .inl (v 14, 120, .inl (fun _ => Int32.ofInt 0))), (u 15, .inl (v 15, 4, .inl (fun _ => Int32.ofInt 0))), (u 16, .inl (v 16, 4, .inl (fun _ => Int32.ofInt 0))), (u 17, .inl (v 17, 24, .inl (fun _ => Int32.ofInt 0))), (u 18, .inl (v 18, 24, .inl (fun _ => Int32.ofInt 0))), (u 19, .inl (v 19, 6, .inl (fun _ => Int32.ofInt 0))), (u 20, .inl (v 20, 4, .inl (fun _ => Int32.ofInt 0))), (u 21, .inl (v 21, 6, .inl (fun _ => Int32.ofInt 0))), (u 22, .inl (v 22, 12, .inl (fun _ => Int32.ofInt 0)))]
def nkX7 (v : Nat → ClassId) : List (ClassId × FieldType) := [(v 0, .int), (v 1, .int), (v 2, .int), (v 3, .int), (v 4, .int), (v 5, .int), (v 6, .int), (v 7, .int), (v 8, .int), (v 9, .int), (v 10, .int), (v 11, .int), (v 12, .int), (v 13, .int), (v 14, .int), (v 15, .int), (v 16, .int), (v 17, .int), (v 18, .int), (v 19, .int), (v 20, .int), (v 21, .int), (v 22, .int)]
def nwX1 (q : Nat) (u : Nat → Nat) (v : Nat → ClassId) : va_W := (q, .inr (1, [.ref (u 0), .ref (u 2)])) :: (nwX3 4 (u 0) (fun k => u (1 + k)) (fun k => v (0 + k)) ++ nwX3 4 (u 2) (fun k => u (3 + k)) (fun k => v (1 + k)))
def nkX1 (v : Nat → ClassId) : List (ClassId × FieldType) := nkX3 (fun k => v (0 + k)) ++ nkX3 (fun k => v (1 + k))
def nwX5 (q : Nat) (u : Nat → Nat) (v : Nat → ClassId) : va_W := (q, .inr (5, [.ref (u 0), .ref (u 2)])) :: (nwX3 96 (u 0) (fun k => u (1 + k)) (fun k => v (0 + k)) ++ nwX2 (u 2) (fun k => u (3 + k)) (fun k => v (1 + k)))
def nkX5 (v : Nat → ClassId) : List (ClassId × FieldType) := nkX3 (fun k => v (0 + k)) ++ nkX2 (fun k => v (1 + k))
theorem nw_df0 : ∀ j, j < 11 → defaultValue (tyX0 j) = vp_V [.int (Int32.ofInt 0), .int (Int32.ofInt 0), .int (Int32.ofInt 0), .int (Int32.ofInt 0), .int (Int32.ofInt 0), .null, .null, .null, .null, .null, .null] j := fun j hj => by
  try rw [am_0]
  rcases (show j = 0 ∨ j = 1 ∨ j = 2 ∨ j = 3 ∨ j = 4 ∨ j = 5 ∨ j = 6 ∨ j = 7 ∨ j = 8 ∨ j = 9 ∨ j = 10 by omega) with rfl | rfl | rfl | rfl | rfl | rfl | rfl | rfl | rfl | rfl | rfl <;> rfl
theorem nw_df1 : ∀ j, j < 2 → defaultValue (tyX1 j) = vp_V [.null, .null] j := fun j hj => by
  try rw [am_0]
  rcases (show j = 0 ∨ j = 1 by omega) with rfl | rfl <;> rfl
theorem nw_df2 : ∀ j, j < 6 → defaultValue (tyX2 j) = vp_V [.int (Int32.ofInt 0), .null, .null, .null, .null, .null] j := fun j hj => by
  try rw [am_0]
  rcases (show j = 0 ∨ j = 1 ∨ j = 2 ∨ j = 3 ∨ j = 4 ∨ j = 5 by omega) with rfl | rfl | rfl | rfl | rfl | rfl <;> rfl
theorem nw_df3 : ∀ j, j < 2 → defaultValue (tyX3 j) = vp_V [.null, .int (Int32.ofInt 0)] j := fun j hj => by
  try rw [am_0]
  rcases (show j = 0 ∨ j = 1 by omega) with rfl | rfl <;> rfl
theorem nw_df4 : ∀ j, j < 4 → defaultValue (tyX4 j) = vp_V [.null, .null, .null, .int (Int32.ofInt 0)] j := fun j hj => by
  try rw [am_0]
  rcases (show j = 0 ∨ j = 1 ∨ j = 2 ∨ j = 3 by omega) with rfl | rfl | rfl | rfl <;> rfl
theorem nw_df5 : ∀ j, j < 2 → defaultValue (tyX5 j) = vp_V [.null, .null] j := fun j hj => by
  try rw [am_0]
  rcases (show j = 0 ∨ j = 1 by omega) with rfl | rfl <;> rfl
theorem nw_df6 : ∀ j, j < 16 → defaultValue (tyX6 j) = vp_V [.null, .null, .null, .null, .null, .null, .null, .null, .null, .null, .null, .null, .null, .null, .null, .int (Int32.ofInt 0)] j := fun j hj => by
  try rw [am_0]
  rcases (show j = 0 ∨ j = 1 ∨ j = 2 ∨ j = 3 ∨ j = 4 ∨ j = 5 ∨ j = 6 ∨ j = 7 ∨ j = 8 ∨ j = 9 ∨ j = 10 ∨ j = 11 ∨ j = 12 ∨ j = 13 ∨ j = 14 ∨ j = 15 by omega) with rfl | rfl | rfl | rfl | rfl | rfl | rfl | rfl | rfl | rfl | rfl | rfl | rfl | rfl | rfl | rfl <;> rfl
theorem nw_df7 : ∀ j, j < 43 → defaultValue (tyX7 j) = vp_V [.null, .null, .null, .null, .null, .null, .null, .null, .null, .null, .int (Int32.ofInt 0), .int (Int32.ofInt 0), .int (Int32.ofInt 0), .int (Int32.ofInt 0), .int (Int32.ofInt 0), .int (Int32.ofInt 0), .int (Int32.ofInt 0), .null, .null, .null, .null, .int (Int32.ofInt 0), .int (Int32.ofInt 0), .int (Int32.ofInt 0), .null, .int (Int32.ofInt 0), .int (Int32.ofInt 0), .int (Int32.ofInt 0), .null, .null, .null, .null, .null, .int (Int32.ofInt 0), .null, .int (Int32.ofInt 0), .int (Int32.ofInt 0), .int (Int32.ofInt 0), .int (Int32.ofInt 0), .null, .int (Int32.ofInt 0), .null, .int (Int32.ofInt 0)] j := fun j hj => by
  try rw [am_0]
  rcases (show j = 0 ∨ j = 1 ∨ j = 2 ∨ j = 3 ∨ j = 4 ∨ j = 5 ∨ j = 6 ∨ j = 7 ∨ j = 8 ∨ j = 9 ∨ j = 10 ∨ j = 11 ∨ j = 12 ∨ j = 13 ∨ j = 14 ∨ j = 15 ∨ j = 16 ∨ j = 17 ∨ j = 18 ∨ j = 19 ∨ j = 20 ∨ j = 21 ∨ j = 22 ∨ j = 23 ∨ j = 24 ∨ j = 25 ∨ j = 26 ∨ j = 27 ∨ j = 28 ∨ j = 29 ∨ j = 30 ∨ j = 31 ∨ j = 32 ∨ j = 33 ∨ j = 34 ∨ j = 35 ∨ j = 36 ∨ j = 37 ∨ j = 38 ∨ j = 39 ∨ j = 40 ∨ j = 41 ∨ j = 42 by omega) with rfl | rfl | rfl | rfl | rfl | rfl | rfl | rfl | rfl | rfl | rfl | rfl | rfl | rfl | rfl | rfl | rfl | rfl | rfl | rfl | rfl | rfl | rfl | rfl | rfl | rfl | rfl | rfl | rfl | rfl | rfl | rfl | rfl | rfl | rfl | rfl | rfl | rfl | rfl | rfl | rfl | rfl | rfl <;> rfl
