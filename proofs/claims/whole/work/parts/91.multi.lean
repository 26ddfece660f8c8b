/-! a row of rows, made at once: multianewarray of two dimensions of ints -/
def mnF (b i : Nat) : Nat → Value := fun j => if j < i then .ref (b + 1 + j) else .null
theorem mnF_s (b i : Nat) : updV (mnF b i) i (.ref (b + 1 + i)) = mnF b (i + 1) := by
  funext j
  unfold updV mnF
  by_cases e : j = i
  · subst e
    rw [if_pos rfl, if_pos (Nat.lt_succ_self j)]
  · rw [if_neg e]
    by_cases h : j < i
    · rw [if_pos h, if_pos (by omega)]
    · rw [if_neg h, if_neg (by omega)]
def mnU (T : State) (cA cI : ClassId) (N M : Nat) : Nat → State
  | 0 => T.pushCell (arrV cA N (mnF T.heap.size 0))
  | i + 1 => ((mnU T cA cI N M i).pushCell (arrV cI M (fun _ => .int 0))).setCell T.heap.size ((arrV cA N (mnF T.heap.size i)).setSlot i (.ref (T.heap.size + 1 + i)))
theorem mnU_top (T : State) (f : JFrame) (cA cI : ClassId) (N M : Nat) : ∀ i, mnU (T.setTop f) cA cI N M i = (mnU T cA cI N M i).setTop f
  | 0 => rfl
  | i + 1 => by
    show ((mnU (T.setTop f) cA cI N M i).pushCell _).setCell _ _ = _
    rw [mnU_top T f cA cI N M i]
    rfl
theorem mnU_facts (T : State) (cA cI : ClassId) (N M : Nat) : ∀ i, (mnU T cA cI N M i).vm = T.vm ∧ (mnU T cA cI N M i).heap.size = T.heap.size + 1 + i ∧ (mnU T cA cI N M i).slotsUsed = T.slotsUsed + N + i * M ∧ (∀ q, q < T.heap.size → (mnU T cA cI N M i).heap[q]? = T.heap[q]?) ∧ (mnU T cA cI N M i).heap[T.heap.size]? = some (arrV cA N (mnF T.heap.size i)) ∧ ∀ j, j < i → (mnU T cA cI N M i).heap[T.heap.size + 1 + j]? = some (arrV cI M (fun _ => .int 0))
  | 0 => by
    refine ⟨rfl, by simp [mnU], by simp [mnU, arrV_size], fun q hq => State.heap_pushCell_of_lt _ _ hq, State.heap_pushCell_size _ _, fun j hj => absurd hj (Nat.not_lt_zero j)⟩
  | i + 1 => by
    obtain ⟨h1, h2, h3, h4, h5, h6⟩ := mnU_facts T cA cI N M i
    generalize hU : mnU T cA cI N M i = U at h1 h2 h3 h4 h5 h6
    have e : mnU T cA cI N M (i + 1) = (U.pushCell (arrV cI M (fun _ => .int 0))).setCell T.heap.size ((arrV cA N (mnF T.heap.size i)).setSlot i (.ref (T.heap.size + 1 + i))) := by rw [← hU]; rfl
    rw [e]
    have hlt : T.heap.size < U.heap.size := by omega
    have ha : (U.pushCell (arrV cI M (fun _ => .int 0))).heap[T.heap.size]? = some (arrV cA N (mnF T.heap.size i)) := by rw [State.heap_pushCell_of_lt _ _ hlt]; exact h5
    refine ⟨h1, ?_, ?_, fun q hq => ?_, ?_, fun j hj => ?_⟩
    · simp [State.setCell, h2]; omega
    · simp [h3, arrV_size, Nat.succ_mul]; omega
    · rw [State.heap_setCell_other (show T.heap.size ≠ q by omega), State.heap_pushCell_of_lt _ _ (show q < U.heap.size by omega)]
      exact h4 q hq
    · rw [State.heap_setCell_self ha, arrV_store, mnF_s]
    · rw [State.heap_setCell_other (show T.heap.size ≠ T.heap.size + 1 + j by omega)]
      by_cases ej : j = i
      · subst ej
        rw [← h2]
        exact State.heap_pushCell_size _ _
      · rw [State.heap_pushCell_of_lt _ _ (show T.heap.size + 1 + j < U.heap.size by omega)]
        exact h6 j (by omega)
section MNA
variable {p : Program} {l : Launch} {e : Env} {R : Room} {s : State} {m : MethodId} {args : Array Value} {below : List Frame} {meth : Method} {c : Code} {H : Heap} {locs : List Loc} {cells slots : Nat} {Q : State → Prop}
theorem mnU_stand {T : State} (X : Stand p l e R s m args below meth c T locs cells slots) (cA cI : ClassId) (N M : Nat) : ∀ i, ∃ L : List Loc, (∀ y ∈ L, y.base = T.heap.size) ∧ Stand p l e R s m args below meth c (mnU T cA cI N M i) (locs ++ L) (cells + 1 + i) (slots + N + i * M)
  | 0 => by
    refine ⟨[], fun y hy => absurd hy List.not_mem_nil, ?_⟩
    have h := X.pushed (arrV cA N (mnF T.heap.size 0))
    rw [arrV_size] at h
    rw [List.append_nil, Nat.zero_mul]
    exact h
  | i + 1 => by
    obtain ⟨L, hL, h⟩ := mnU_stand X cA cI N M i
    obtain ⟨h1, h2, h3, h4, h5, h6⟩ := mnU_facts T cA cI N M i
    have hlt : T.heap.size < (mnU T cA cI N M i).heap.size := by omega
    have hc : ((mnU T cA cI N M i).pushCell (arrV cI M (fun _ => .int 0))).heap[T.heap.size]? = some (arrV cA N (mnF T.heap.size i)) := by rw [State.heap_pushCell_of_lt _ _ hlt]; exact h5
    have hs := (h.pushed (arrV cI M (fun _ => .int 0))).stored hc i (.ref (T.heap.size + 1 + i))
    rw [arrV_size] at hs
    refine ⟨L ++ [⟨T.heap.size, i⟩], fun y hy => ?_, ?_⟩
    · rcases List.mem_append.mp hy with q | q
      · exact hL y q
      · rw [List.mem_singleton.mp q]
    · rw [show locs ++ (L ++ [⟨T.heap.size, i⟩]) = locs ++ L ++ [⟨T.heap.size, i⟩] by rw [List.append_assoc], show slots + N + (i + 1) * M = slots + N + i * M + M by rw [Nat.succ_mul]; omega]
      exact hs
theorem wp_inner {E : CtlPost} {d : Bool} {acts : List Action} {U : State} {cI ce : ClassId} {kI : Class} {k : Int32} (hk1 : U.vm.classes[cI]? = some kI) (hk2 : kI.kind = .array ce .int) (hk : ¬ k < 0) (hl : ¬ k.toNatClampNeg > e.platform.arrayLengthLimit) (hh : ¬ k.toNatClampNeg * componentBytes .int > e.platform.maxHeapBytes) (h1 : U.heap.size < e.platform.maxCells) (h2 : U.slotsUsed + k.toNatClampNeg ≤ e.platform.maxSlots)
    {P : Addr → Pre} (hP : ∀ acts', P U.heap.size d acts' (U.pushCell (arrV cI k.toNatClampNeg (fun _ => .int 0)))) : wp (multianewarray.make cI [k]) P E e d acts U := by
  rw [multianewarray.make]
  simp only [wp_bind', W.ite, hk, if_false, wp_pure', W.theClass, hk1, hk2, Option.some.injEq, exists_eq_left']
  refine W.newArray_of hk1 hk2 hl hh h1 h2 rfl (fun acts' => ?_)
  have := hP acts'
  rw [← arrV_new] at this
  exact this
/-- the class of rows of rows, and of a row -/
def mnA (U : State) (cA cI : ClassId) : Prop := ∃ (kA kI : Class) (ce : ClassId), U.vm.classes[cA]? = some kA ∧ kA.kind = .array cI (.array .int) ∧ U.vm.classes[cI]? = some kI ∧ kI.kind = .array ce .int
theorem mnA.moved {u U : State} {cA cI : ClassId} (hvm : u.vm.Alike U.vm) (h : mnA u cA cI) : mnA U cA cI := by
  obtain ⟨kA, kI, ce, h1, h2, h3, h4⟩ := h
  obtain ⟨a, a1, a2⟩ := hvm.2.2 _ _ h1
  obtain ⟨b, b1, b2⟩ := hvm.2.2 _ _ h3
  exact ⟨a, b, ce, a1, by rw [a2]; exact h2, b1, by rw [b2]; exact h4⟩
theorem W_mna {cc : ByteArray} (hexec : p.tables.exec = Jvm.exec) (hb : c.code = cc) {own : String} {index : Nat} (hown : s.vm.findClass own = some m.cls) (hclink : (Cond.classLink own index "[[I").before args s = true) {cA comp : ClassId} (hnameA : s.vm.findClass "[[I" = some cA) (hAA : mnA s cA comp)
    {g : JFrame} (hg : g.method = m) (hdg : decode cc g.pc = .ok (.multianewarray index 2, 4)) {n k : Int32} {rest : List Value} (hstack : g.stack = .int k :: .int n :: rest) (hn : ¬ n < 0) (hk : ¬ k < 0) (hn2 : n.toNatClampNeg ≤ 1000) (hk2 : k.toNatClampNeg ≤ 1000) (hcells : cells + (1 + n.toNatClampNeg) ≤ R.cells) (hslots : slots + (n.toNatClampNeg + n.toNatClampNeg * k.toNatClampNeg) ≤ R.slots)
    (kk : ∀ (H1 : Heap) (L : List Loc), (∀ y ∈ L, y.base = H.size) → H1.size = H.size + 1 + n.toNatClampNeg → (∀ q, q < H.size → H1[q]? = H[q]?) → H1[H.size]? = some (arrV cA n.toNatClampNeg (fun j => .ref (H.size + 1 + j))) → (∀ j, j < n.toNatClampNeg → H1[H.size + 1 + j]? = some (arrV comp k.toNatClampNeg (fun _ => .int 0))) →
      W p l e R s m args below meth c H1 (locs ++ L) (cells + 1 + n.toNatClampNeg) (slots + n.toNatClampNeg + n.toNatClampNeg * k.toNatClampNeg) Q { g with pc := g.pc + 4, stack := .ref H.size :: rest }) : W p l e R s m args below meth c H locs cells slots Q g := by
  intro T hT X
  subst hT; subst hb; subst hg
  have hpl : e.platform.magicAccessors = ({} : Platform).magicAccessors := by rw [X.admits.platform]
  obtain ⟨kA, kI, ce, hkA, hkindA, hkI, hkindI⟩ := hAA
  obtain ⟨c0, hfc0, hcl⟩ := Cond.classLink_spec hown hclink e.platform hpl
  cases hnameA.symm.trans hfc0
  obtain ⟨hg₁, hwarm₁, hready₁⟩ := State.classEntry (e := e) X.warmed hcl
  generalize T.vm.noted g.method.cls index (.cls cA) = vm₁ at hg₁ hwarm₁ hready₁
  have hal : s.vm.Alike vm₁ := hwarm₁.alike
  obtain ⟨kA₁, hkA₁, heA⟩ := hal.2.2 _ _ hkA
  obtain ⟨kI₁, hkI₁, heI⟩ := hal.2.2 _ _ hkI
  have hkindA₁ : kA₁.kind = .array comp (.array .int) := by rw [heA]; exact hkindA
  have hkindI₁ : kI₁.kind = .array ce .int := by rw [heI]; exact hkindI
  obtain ⟨hr1, hr2⟩ := X.roomAbove hcells hslots
  have hlim : ∀ x : Nat, x ≤ 1000 → ¬ x > e.platform.arrayLengthLimit := fun x hx => by rw [Launch.admits_arrayLengthLimit X.admits]; omega
  have hhp : ∀ x : Nat, x ≤ 4000 → ¬ x > e.platform.maxHeapBytes := fun x hx => by rw [Launch.admits_maxHeapBytes X.admits]; omega
  have X₁ := X.noted hwarm₁
  obtain ⟨L, hL, XL⟩ := mnU_stand X₁ cA comp n.toNatClampNeg k.toNatClampNeg n.toNatClampNeg
  obtain ⟨f1, f2, f3, f4, f5, f6⟩ := mnU_facts (T.setVm vm₁) cA comp n.toNatClampNeg k.toNatClampNeg n.toNatClampNeg
  obtain ⟨t', a1, b1⟩ := kk (mnU (T.setVm vm₁) cA comp n.toNatClampNeg k.toNatClampNeg n.toNatClampNeg).heap L hL f2 f4 (by
    refine f5.trans (congrArg some ?_)
    unfold arrV mnF
    congr 2
    funext j
    rw [if_pos j.2]
    rfl) f6 _ rfl XL
  refine ⟨t', ?_, b1⟩
  jvm_step X.here [hexec, hdg]
  simp only [multianewarray.sem, wp_bind', W.resolveClassAt_links (State.method?_setTop g X.here.top) hg₁]
  rw [W.popN, if_neg (by decide)]
  refine ⟨g, State.topJava?_setTop' (s := T.setVm vm₁) g X.here.top, [.int n, .int k], rest, rfl, hstack, ?_⟩
  simp only [List.mapM_cons, List.mapM_nil, wp_bind', wp_pure']
  have eS : ((T.setTop g).setVm vm₁).setTop { g with stack := rest } = (T.setVm vm₁).setTop { g with stack := rest } := by
    show ((T.setVm vm₁).setTop g).setTop _ = _
    rw [State.setTop_setTop]
  rw [eS]
  generalize hS : T.setVm vm₁ = S at X₁ XL f1 f2 f3 f4 f5 f6 a1 ⊢
  have hSv : S.vm = vm₁ := by rw [← hS]; rfl
  have hSh : S.heap = T.heap := by rw [← hS]; rfl
  have hSu : S.slotsUsed = T.slotsUsed := by rw [← hS]; rfl
  have hkA₂ : S.vm.classes[cA]? = some kA₁ := by rw [hSv]; exact hkA₁
  have hkI₂ : S.vm.classes[comp]? = some kI₁ := by rw [hSv]; exact hkI₁
  generalize hf : ({ g with stack := rest } : JFrame) = f
  have hfind : ([k].find? (fun x => decide (x < 0))) = none := by simp [hk]
  rw [multianewarray.make]
  simp only [wp_bind', W.ite, hn, if_false, wp_pure', W.theClass]
  refine ⟨kA₁, hkA₂, ?_⟩
  simp only [hkindA₁, hfind, wp_bind']
  refine W.newArray_of (k := kA₁) (comp := comp) (type := .array .int) hkA₂ hkindA₁ (hlim _ hn2) (hhp _ (by show _ * 4 ≤ 4000; omega)) (by show S.heap.size < _; rw [hSh]; omega) (by show S.slotsUsed + _ ≤ _; rw [hSu]; have := Nat.zero_le (n.toNatClampNeg * k.toNatClampNeg); omega) rfl (fun acts' => ?_)
  rw [ite_self, wp_bind', Std.Legacy.Range.forIn_eq_forIn_range']
  have hsz : ([:n.toNatClampNeg] : Std.Legacy.Range).size = n.toNatClampNeg := by simp [Std.Legacy.Range.size]
  rw [hsz]
  refine wp_forIn_inv (fun r s' => ∃ i, i ≤ n.toNatClampNeg ∧ r = List.range' i (n.toNatClampNeg - i) ∧ s' = (mnU S cA comp n.toNatClampNeg k.toNatClampNeg i).setTop f) _ _ ⟨0, Nat.zero_le _, rfl, ?_⟩ ?_ ?_
  · rw [← mnU_top]
    show _ = (S.setTop f).pushCell (arrV cA n.toNatClampNeg (mnF (S.setTop f).heap.size 0))
    rw [show mnF (S.setTop f).heap.size 0 = fun _ => .null from rfl, ← arrV_new]
  · rintro x r s' d' acts2 Q' ⟨i, hi, hr, rfl⟩ hnext
    have hlt : i < n.toNatClampNeg := by
      rcases Nat.lt_or_ge i n.toNatClampNeg with q | q
      · exact q
      · rw [show n.toNatClampNeg - i = 0 by omega] at hr
        cases hr
    rw [show n.toNatClampNeg - i = (n.toNatClampNeg - (i + 1)) + 1 by omega, List.range'_succ] at hr
    cases hr
    obtain ⟨u1, u2, u3, u4, u5, u6⟩ := mnU_facts S cA comp n.toNatClampNeg k.toNatClampNeg x
    have hmul : x * k.toNatClampNeg + k.toNatClampNeg ≤ n.toNatClampNeg * k.toNatClampNeg := by
      have := Nat.mul_le_mul_right k.toNatClampNeg (show x + 1 ≤ n.toNatClampNeg from hlt)
      rw [Nat.succ_mul] at this
      exact this
    simp only [wp_bind']
    refine wp_inner (kI := kI₁) (ce := ce) (by show (mnU S cA comp n.toNatClampNeg k.toNatClampNeg x).vm.classes[comp]? = _; rw [u1]; exact hkI₂) hkindI₁ hk (hlim _ hk2) (hhp _ (by show _ * 4 ≤ 4000; omega)) (by show (mnU S cA comp n.toNatClampNeg k.toNatClampNeg x).heap.size < _; rw [u2, hSh]; omega) (by show (mnU S cA comp n.toNatClampNeg k.toNatClampNeg x).slotsUsed + _ ≤ _; rw [u3, hSu]; omega) (fun acts3 => ?_)
    have hlt0 : S.heap.size < (mnU S cA comp n.toNatClampNeg k.toNatClampNeg x).heap.size := by omega
    simp only [wp_bind', W.writeLoc, wp_pure']
    refine ⟨arrV cA n.toNatClampNeg (mnF S.heap.size x), ?_, by show VmData.none ≠ _; simp, by rw [arrV_size]; exact hlt, ?_, hnext _ _ _ ⟨x + 1, hlt, rfl, ?_⟩⟩
    · show ((mnU S cA comp n.toNatClampNeg k.toNatClampNeg x).pushCell _).heap[S.heap.size]? = _
      rw [State.heap_pushCell_of_lt _ _ hlt0]
      exact u5
    · show State.fitsSlot _ cA .none _ _ = true
      have hv : (mnU S cA comp n.toNatClampNeg k.toNatClampNeg x).vm.classes[cA]? = some kA₁ := by rw [u1]; exact hkA₂
      simp [State.fitsSlot, State.slotType?, hv, hkindA₁, fits]
    · show ((mnU S cA comp n.toNatClampNeg k.toNatClampNeg x).pushCell _ |>.setCell S.heap.size _).setTop f = _
      show _ = (((mnU S cA comp n.toNatClampNeg k.toNatClampNeg x).pushCell _).setCell S.heap.size _).setTop f
      rw [← u2]
      rfl
  · rintro s' d' acts2 ⟨i, hi, hr, rfl⟩
    have hin : i = n.toNatClampNeg := by
      rcases Nat.lt_or_ge i n.toNatClampNeg with q | q
      · rw [show n.toNatClampNeg - i = (n.toNatClampNeg - (i + 1)) + 1 by omega, List.range'_succ] at hr
        cases hr
      · omega
    subst hin
    simp only [wp_pure', wp_bind', W.mark, W.pushRef, State.topJava?_setTop' _ XL.here.top, Option.some.injEq, exists_eq_left', State.setTop_setTop, State.heap_setTop]
    intro acts4
    subst hf
    rw [hSh]
    simp [jvm, XL.here.top]
    exact a1
end MNA
