def okC (q : vw_C) : Prop := (∀ w ∈ u_ws q.1 q.2.1 q.2.2, w ∈ gw) ∧ (∃ ty0 : Nat → FieldType, ∀ k, k < q.2.2 → parseFieldDescriptor (q.2.1 k).2.2.1 = some (ty0 k)) ∧ (∀ a, a < q.2.2 → ∀ b, b < q.2.2 → a ≠ b → (q.2.1 a).2.1 ≠ (q.2.1 b).2.1)
theorem okC_in {C : String} {T : u_T} {N : Nat} (h : ∀ w ∈ u_ws C T N, w ∈ lw_tbl) : ∀ w ∈ u_ws C T N, w ∈ gw := by
  intro w hw
  refine List.mem_filter.mpr ⟨h w hw, ?_⟩
  obtain ⟨k, -, rfl⟩ := List.mem_map.mp hw
  unfold u_lay
  split <;> rfl
theorem inw0 : ∀ w ∈ u_ws RX0 TX0 3, w ∈ lw_tbl := by decide +kernel
theorem inw1 : ∀ w ∈ u_ws RX1 TX1 3, w ∈ lw_tbl := by decide +kernel
theorem inw2 : ∀ w ∈ u_ws RX2 TX2 11, w ∈ lw_tbl := by decide +kernel
theorem inw3 : ∀ w ∈ u_ws RX3 TX3 1, w ∈ lw_tbl := by decide +kernel
theorem inw4 : ∀ w ∈ u_ws RX4 TX4 3, w ∈ lw_tbl := by decide +kernel
theorem inw5 : ∀ w ∈ u_ws RX5 TX5 6, w ∈ lw_tbl := by decide +kernel
theorem inw6 : ∀ w ∈ u_ws RX6 TX6 3, w ∈ lw_tbl := by decide +kernel
theorem inw7 : ∀ w ∈ u_ws RX7 TX7 9, w ∈ lw_tbl := by decide +kernel
theorem inw8 : ∀ w ∈ u_ws RX8 TX8 5, w ∈ lw_tbl := by decide +kernel
theorem inw9 : ∀ w ∈ u_ws RX9 TX9 9, w ∈ lw_tbl := by decide +kernel
theorem inw10 : ∀ w ∈ u_ws RX10 TX10 40, w ∈ lw_tbl := by decide +kernel
theorem classes_ok : ∀ q ∈ classes, okC q := List.forall_mem_cons.mpr ⟨⟨okC_in inw0, ⟨tyX0, tyX0_ok⟩, nmX0⟩, List.forall_mem_cons.mpr ⟨⟨okC_in inw1, ⟨tyX1, tyX1_ok⟩, nmX1⟩, List.forall_mem_cons.mpr ⟨⟨okC_in inw2, ⟨tyX2, tyX2_ok⟩, nmX2⟩, List.forall_mem_cons.mpr ⟨⟨okC_in inw3, ⟨tyX3, tyX3_ok⟩, nmX3⟩, List.forall_mem_cons.mpr ⟨⟨okC_in inw4, ⟨tyX4, tyX4_ok⟩, nmX4⟩, List.forall_mem_cons.mpr ⟨⟨okC_in inw5, ⟨tyX5, tyX5_ok⟩, nmX5⟩, List.forall_mem_cons.mpr ⟨⟨okC_in inw6, ⟨tyX6, tyX6_ok⟩, nmX6⟩, List.forall_mem_cons.mpr ⟨⟨okC_in inw7, ⟨tyX7, tyX7_ok⟩, nmX7⟩, List.forall_mem_cons.mpr ⟨⟨okC_in inw8, ⟨tyX8, tyX8_ok⟩, nmX8⟩, List.forall_mem_cons.mpr ⟨⟨okC_in inw9, ⟨tyX9, tyX9_ok⟩, nmX9⟩, List.forall_mem_cons.mpr ⟨⟨okC_in inw10, ⟨tyX10, tyX10_ok⟩, nmX10⟩, fun _ h => absurd h List.not_mem_nil⟩⟩⟩⟩⟩⟩⟩⟩⟩⟩⟩
theorem find_mem {α : Type} {l : List (Nat × Nat × α)} {o i : Nat} {v : α} (h : (l.find? (fun q => q.1 == o && q.2.1 == i)).map (fun q => q.2.2) = some v) : (o, i, v) ∈ l := by
  cases hf : l.find? (fun q => q.1 == o && q.2.1 == i) with
  | none => rw [hf] at h; cases h
  | some q =>
    rw [hf] at h
    have h1 := List.mem_of_find?_eq_some hf
    have h2 := List.find?_some hf
    simp only [Bool.and_eq_true, beq_iff_eq] at h2
    obtain ⟨a, b, w⟩ := q
    obtain ⟨rfl, rfl⟩ := h2
    cases h
    exact h1
theorem fl_ok {o i : Nat} {q : Nat × Nat} (h : fl o i = some q) : okF (o, i, q.1, q.2) := flt_ok _ (find_mem h)
theorem kl_ok {o i : Nat} {v : Int32} (h : kl o i = some v) : okK (o, i, v) := klt_ok _ (find_mem h)
theorem kL_ok {o i : Nat} {v : Int64} (h : kL o i = some v) : okL (o, i, v) := kLt_ok _ (find_mem h)
theorem ml_ok {o i j : Nat} (h : ml o i = some j) : okN (o, i, j) := mlt_ok _ (find_mem h)
theorem mtt_at {j : Nat} {m : aM} (h : mtt[j]? = some m) : okM m := mtt_ok _ (List.mem_of_getElem? h)
theorem rc_arr {g : aG} {a k n : Nat} {t : List Nat} (h : shl[a]? = some (.inr (k, n, t))) (hk : k < 2) (f : Nat → Int32) : rc g a f = .inl (g.2.2 k, n, .inl f) := by
  unfold rc
  rw [h]
  simp only [hk, if_true]
theorem rc_ref {g : aG} {a k n : Nat} {t : List Nat} (h : shl[a]? = some (.inr (k, n, t))) (hk : ¬ k < 2) (f : Nat → Int32) : rc g a f = .inl (g.2.2 k, n, .inr (.inr (.inr (.inr (fun i => (t[i]?).map g.2.1))))) := by
  unfold rc
  rw [h]
  simp only [hk, if_false]
theorem rc_obj {g : aG} {a ci : Nat} {sl : List (Option Nat)} (h : shl[a]? = some (.inl (ci, sl))) (f : Nat → Int32) : rc g a f = .inr (ci, rfs g.2.1 f sl) := by
  unfold rc
  rw [h]
theorem gw_good (y : Cond) (hy : y ∈ gw) : GoodIn gw (y :: gw) := by
  intro w hw
  have h : w ∈ gw := by
    rcases List.mem_cons.mp hw with h | h
    · rw [h]; exact hy
    · exact h
  exact ⟨h, good_of_word (List.mem_filter.mp h).2⟩
theorem aPre_blind {g : aG} {sz : Nat} {as : List Value} {σ : aW} : FrameBlind (aPre g sz as σ) := fun a U f mk q => by
  obtain ⟨q0, q1, qP, qK, qN, qD⟩ := q
  exact ⟨q0, q1, qP, va_K.moved (u := U) (U := U.calling f mk a) (Vm.Alike.refl U.vm) qK, va_Nw.same (u := U) rfl rfl qN, qD⟩
section SND
variable {p : Program} {l : Launch} {e : Env} {R : Room} {s : State} {m : MethodId} {args : Array Value} {below : List Frame} {meth : Method} {c : Code} {cells slots : Nat} {Z : State → Prop} {g : aG} {A : Nat → Prop} {d : Nat} {sc : Option (Nat × (Nat → Int32))} {o : Nat} {cc : ByteArray} {ty : Option FieldType} {nL : Nat} {Q : Option Value → aW → Prop} {K : Nat → aL → List Value → aW → Prop} {pc : Nat} {ls : aL} {st : List Value} {σ : aW} {H : Heap} {locs : List Loc} {ls' : Array Slot}
def aCtx (p : Program) (R : Room) (s : State) (m : MethodId) (args : Array Value) (c : Code) (g : aG) (A : Nat → Prop) (d : Nat) (sc : Option (Nat × (Nat → Int32))) (o : Nat) (cc : ByteArray) (nL cells slots : Nat) : Prop :=
  p.tables.exec = Jvm.exec ∧ c.code = cc ∧ c.maxLocals = nL ∧ s.vm.findClass (cn o) = some m.cls ∧ (∀ w ∈ gw, w.before args s = true) ∧ va_K g.1 classes (atys g) s ∧ va_Nw nw0 s ∧ (∀ i j, i < NP → j < NP → g.2.1 i = g.2.1 j → i = j) ∧ (∀ i, i < NP → A (g.2.1 i)) ∧ (∀ q, s.heap.size ≤ q → A q) ∧ (d + 1 ≤ R.frames ∧ 100 * (d + 1) ≤ R.locals) ∧ (cells ≤ R.cells ∧ slots ≤ R.slots) ∧ (∀ q, sc = some q → va_X (g.2.1 NP) q.1 q.2 s s.heap ∧ g.2.1 NP < s.heap.size ∧ ¬ A (g.2.1 NP))
def aGo (p : Program) (l : Launch) (e : Env) (R : Room) (s : State) (m : MethodId) (args : Array Value) (below : List Frame) (meth : Method) (c : Code) (cells slots : Nat) (Z : State → Prop) (g : aG) (A : Nat → Prop) (nL : Nat) (K : Nat → aL → List Value → aW → Prop) : Prop :=
  ∀ (pc : Nat) (ls : aL) (st : List Value) (σ : aW) (H : Heap) (locs : List Loc) (ls' : Array Slot), K pc ls st σ → va_P g.1 classes (rws g σ) H → va_S A s.heap H locs → lo_has g.2.1 ls' nL ls → W p l e R s m args below meth c H locs cells slots Z (F0 m pc ls' (st.map (rv g.2.1)))
theorem s_nx {st2 : List Value} {pc2 : Nat} (hG : aGo p l e R s m args below meth c cells slots Z g A nL K) (hP : va_P g.1 classes (rws g σ) H) (hS : va_S A s.heap H locs) (hl : lo_has g.2.1 ls' nL ls) (h : XR l d Q pc ls σ K (nx pc2 ls st2 σ)) : W p l e R s m args below meth c H locs cells slots Z (F0 m pc2 ls' (st2.map (rv g.2.1))) := hG _ _ _ _ _ _ _ h hP hS hl
theorem s_bin {f : Int32 → Int32 → Int32} (hG : aGo p l e R s m args below meth c cells slots Z g A nL K) (hP : va_P g.1 classes (rws g σ) H) (hS : va_S A s.heap H locs) (hl : lo_has g.2.1 ls' nL ls)
    (row : ∀ (x y : Int32) (rest : List Value), W p l e R s m args below meth c H locs cells slots Z (F0 m (pc + 1) ls' (.int (f x y) :: rest)) → W p l e R s m args below meth c H locs cells slots Z (F0 m pc ls' (.int y :: .int x :: rest)))
    (h : XR l d Q pc ls σ K (bin f pc ls st σ)) : W p l e R s m args below meth c H locs cells slots Z (F0 m pc ls' (st.map (rv g.2.1))) := by
  unfold bin at h
  split at h
  · exact row _ _ _ (s_nx hG hP hS hl h)
  · exact h.elim
theorem s_binL {f : Int64 → Int64 → Int64} (hG : aGo p l e R s m args below meth c cells slots Z g A nL K) (hP : va_P g.1 classes (rws g σ) H) (hS : va_S A s.heap H locs) (hl : lo_has g.2.1 ls' nL ls)
    (row : ∀ (x y : Int64) (rest : List Value), W p l e R s m args below meth c H locs cells slots Z (F0 m (pc + 1) ls' (.long (f x y) :: rest)) → W p l e R s m args below meth c H locs cells slots Z (F0 m pc ls' (.long y :: .long x :: rest)))
    (h : XR l d Q pc ls σ K (binL f pc ls st σ)) : W p l e R s m args below meth c H locs cells slots Z (F0 m pc ls' (st.map (rv g.2.1))) := by
  unfold binL at h
  split at h
  · exact row _ _ _ (s_nx hG hP hS hl h)
  · exact h.elim
theorem s_divI {f : Int32 → Int32 → Int32} (hG : aGo p l e R s m args below meth c cells slots Z g A nL K) (hP : va_P g.1 classes (rws g σ) H) (hS : va_S A s.heap H locs) (hl : lo_has g.2.1 ls' nL ls)
    (row : ∀ (x y : Int32) (rest : List Value), ¬ y = 0 → W p l e R s m args below meth c H locs cells slots Z (F0 m (pc + 1) ls' (.int (f x y) :: rest)) → W p l e R s m args below meth c H locs cells slots Z (F0 m pc ls' (.int y :: .int x :: rest)))
    (h : XR l d Q pc ls σ K (divI f pc ls st σ)) : W p l e R s m args below meth c H locs cells slots Z (F0 m pc ls' (st.map (rv g.2.1))) := by
  unfold divI at h
  split at h
  · next y x r =>
    by_cases hy : y = 0
    · rw [if_pos hy] at h; exact h.elim
    · rw [if_neg hy] at h
      exact row _ _ _ hy (s_nx hG hP hS hl h)
  · exact h.elim
theorem s_divL {f : Int64 → Int64 → Int64} (hG : aGo p l e R s m args below meth c cells slots Z g A nL K) (hP : va_P g.1 classes (rws g σ) H) (hS : va_S A s.heap H locs) (hl : lo_has g.2.1 ls' nL ls)
    (row : ∀ (x y : Int64) (rest : List Value), ¬ y = 0 → W p l e R s m args below meth c H locs cells slots Z (F0 m (pc + 1) ls' (.long (f x y) :: rest)) → W p l e R s m args below meth c H locs cells slots Z (F0 m pc ls' (.long y :: .long x :: rest)))
    (h : XR l d Q pc ls σ K (divL f pc ls st σ)) : W p l e R s m args below meth c H locs cells slots Z (F0 m pc ls' (st.map (rv g.2.1))) := by
  unfold divL at h
  split at h
  · next y x r =>
    by_cases hy : y = 0
    · rw [if_pos hy] at h; exact h.elim
    · rw [if_neg hy] at h
      exact row _ _ _ hy (s_nx hG hP hS hl h)
  · exact h.elim
theorem s_ldI {k pc2 : Nat} (hG : aGo p l e R s m args below meth c cells slots Z g A nL K) (hP : va_P g.1 classes (rws g σ) H) (hS : va_S A s.heap H locs) (hl : lo_has g.2.1 ls' nL ls)
    (row : ∀ (x : Int32), ls'[k]? = some (.val (.int x)) → W p l e R s m args below meth c H locs cells slots Z (F0 m pc2 ls' (.int x :: st.map (rv g.2.1))) → W p l e R s m args below meth c H locs cells slots Z (F0 m pc ls' (st.map (rv g.2.1))))
    (h : XR l d Q pc ls σ K (ldI k pc2 ls st σ)) : W p l e R s m args below meth c H locs cells slots Z (F0 m pc ls' (st.map (rv g.2.1))) := by
  unfold ldI at h
  split at h
  · next x hx => exact row _ (hl.2.2.2 _ _ (join_at hx)) (s_nx hG hP hS hl h)
  · exact h.elim
theorem s_ldL {k pc2 : Nat} (hG : aGo p l e R s m args below meth c cells slots Z g A nL K) (hP : va_P g.1 classes (rws g σ) H) (hS : va_S A s.heap H locs) (hl : lo_has g.2.1 ls' nL ls)
    (row : ∀ (x : Int64), ls'[k]? = some (.val (.long x)) → W p l e R s m args below meth c H locs cells slots Z (F0 m pc2 ls' (.long x :: st.map (rv g.2.1))) → W p l e R s m args below meth c H locs cells slots Z (F0 m pc ls' (st.map (rv g.2.1))))
    (h : XR l d Q pc ls σ K (ldL k pc2 ls st σ)) : W p l e R s m args below meth c H locs cells slots Z (F0 m pc ls' (st.map (rv g.2.1))) := by
  unfold ldL at h
  split at h
  · next x hx => exact row _ (hl.2.2.2 _ _ (join_at hx)) (s_nx hG hP hS hl h)
  · exact h.elim
theorem s_ldA {k pc2 : Nat} (hG : aGo p l e R s m args below meth c cells slots Z g A nL K) (hP : va_P g.1 classes (rws g σ) H) (hS : va_S A s.heap H locs) (hl : lo_has g.2.1 ls' nL ls)
    (row : ∀ (x : Nat), ls'[k]? = some (.val (.ref x)) → W p l e R s m args below meth c H locs cells slots Z (F0 m pc2 ls' (.ref x :: st.map (rv g.2.1))) → W p l e R s m args below meth c H locs cells slots Z (F0 m pc ls' (st.map (rv g.2.1))))
    (h : XR l d Q pc ls σ K (ldA k pc2 ls st σ)) : W p l e R s m args below meth c H locs cells slots Z (F0 m pc ls' (st.map (rv g.2.1))) := by
  unfold ldA at h
  split at h
  · next x hx => exact row _ (hl.2.2.2 _ _ (join_at hx)) (s_nx hG hP hS hl h)
  · exact h.elim
theorem s_stI {k pc2 : Nat} (hG : aGo p l e R s m args below meth c cells slots Z g A nL K) (hP : va_P g.1 classes (rws g σ) H) (hS : va_S A s.heap H locs) (hl : lo_has g.2.1 ls' nL ls)
    (row : ∀ (x : Int32) (rest : List Value), lv_has ls' nL (lvl g.2.1 ls) → k < nL → (∀ ls2 : Array Slot, lv_has ls2 nL ((k, Value.int x) :: (lvl g.2.1 ls).filter (fun q => !(q.1 == k) && !(q.1 + 1 == k && q.2.category == 2))) → W p l e R s m args below meth c H locs cells slots Z (F0 m pc2 ls2 rest)) → W p l e R s m args below meth c H locs cells slots Z (F0 m pc ls' (.int x :: rest)))
    (h : XR l d Q pc ls σ K (stI k pc2 ls st σ)) : W p l e R s m args below meth c H locs cells slots Z (F0 m pc ls' (st.map (rv g.2.1))) := by
  unfold stI at h
  split at h
  · next x r =>
    by_cases hk : lok ls k = true ∧ k < ls.length
    · rw [if_pos hk] at h
      have hn : k < nL := by rw [← hl.1]; exact hk.2
      exact row x _ hl.lv hn (fun ls2 h2 => hG _ _ _ _ _ _ _ h hP hS (lo_set1 (v := .int x) hl.1 hn hk.1 h2))
    · rw [if_neg hk] at h; exact h.elim
  · exact h.elim
theorem s_stA {k pc2 : Nat} (hG : aGo p l e R s m args below meth c cells slots Z g A nL K) (hP : va_P g.1 classes (rws g σ) H) (hS : va_S A s.heap H locs) (hl : lo_has g.2.1 ls' nL ls)
    (row : ∀ (x : Nat) (rest : List Value), lv_has ls' nL (lvl g.2.1 ls) → k < nL → (∀ ls2 : Array Slot, lv_has ls2 nL ((k, Value.ref x) :: (lvl g.2.1 ls).filter (fun q => !(q.1 == k) && !(q.1 + 1 == k && q.2.category == 2))) → W p l e R s m args below meth c H locs cells slots Z (F0 m pc2 ls2 rest)) → W p l e R s m args below meth c H locs cells slots Z (F0 m pc ls' (.ref x :: rest)))
    (h : XR l d Q pc ls σ K (stA k pc2 ls st σ)) : W p l e R s m args below meth c H locs cells slots Z (F0 m pc ls' (st.map (rv g.2.1))) := by
  unfold stA at h
  split at h
  · next x r =>
    by_cases hk : lok ls k = true ∧ k < ls.length
    · rw [if_pos hk] at h
      have hn : k < nL := by rw [← hl.1]; exact hk.2
      exact row (g.2.1 x) _ hl.lv hn (fun ls2 h2 => hG _ _ _ _ _ _ _ h hP hS (lo_set1 (v := .ref x) hl.1 hn hk.1 h2))
    · rw [if_neg hk] at h; exact h.elim
  · exact h.elim
theorem s_stL {k pc2 : Nat} (hG : aGo p l e R s m args below meth c cells slots Z g A nL K) (hP : va_P g.1 classes (rws g σ) H) (hS : va_S A s.heap H locs) (hl : lo_has g.2.1 ls' nL ls)
    (row : ∀ (x : Int64) (rest : List Value), lv_has ls' nL (lvl g.2.1 ls) → k + 1 < nL → (∀ ls2 : Array Slot, lv_has ls2 nL ((k, Value.long x) :: (lvl g.2.1 ls).filter (fun q => !(q.1 == k) && (!(q.1 == k + 1) && !(q.1 + 1 == k && q.2.category == 2)))) → W p l e R s m args below meth c H locs cells slots Z (F0 m pc2 ls2 rest)) → W p l e R s m args below meth c H locs cells slots Z (F0 m pc ls' (.long x :: rest)))
    (h : XR l d Q pc ls σ K (stL k pc2 ls st σ)) : W p l e R s m args below meth c H locs cells slots Z (F0 m pc ls' (st.map (rv g.2.1))) := by
  unfold stL at h
  split at h
  · next x r =>
    by_cases hk : lok ls k = true ∧ k + 1 < ls.length
    · rw [if_pos hk] at h
      have hn : k + 1 < nL := by rw [← hl.1]; exact hk.2
      exact row x _ hl.lv hn (fun ls2 h2 => hG _ _ _ _ _ _ _ h hP hS (lo_set2 (v := .long x) hl.1 hn hk.1 h2))
    · rw [if_neg hk] at h; exact h.elim
  · exact h.elim
theorem s_inc {k : Nat} {n : Int} (hG : aGo p l e R s m args below meth c cells slots Z g A nL K) (hP : va_P g.1 classes (rws g σ) H) (hS : va_S A s.heap H locs) (hl : lo_has g.2.1 ls' nL ls) (hx : p.tables.exec = Jvm.exec) (hb : c.code = cc) (hd : decode cc pc = .ok (.iinc k n, 3))
    (h : XR l d Q pc ls σ K (inc k n pc ls st σ)) : W p l e R s m args below meth c H locs cells slots Z (F0 m pc ls' (st.map (rv g.2.1))) := by
  unfold inc at h
  split at h
  · next x hj =>
    by_cases hk : lok ls k = true ∧ k < ls.length
    · rw [if_pos hk] at h
      have hn : k < nL := by rw [← hl.1]; exact hk.2
      have hm : (k, Value.int x) ∈ lvl g.2.1 ls := lvl_mem.mpr ⟨.int x, join_at hj, rfl⟩
      obtain ⟨i, hi⟩ := List.getElem?_of_mem hm
      exact lv_iinc hx hb hd hl.lv hi rfl hn rfl (fun ls2 h2 => hG _ _ _ _ _ _ _ h hP hS (lo_set1 (v := .int (x + Int32.ofInt n)) hl.1 hn hk.1 h2))
    · rw [if_neg hk] at h; exact h.elim
  · exact h.elim
theorem tg_eq {off : Int} (h : 0 ≤ (pc : Int) + off) : (pc : Int) + off = (tg pc off : Int) := by
  unfold tg
  omega
theorem s_br {b : Bool} {off : Int} {r : List Value} (hG : aGo p l e R s m args below meth c cells slots Z g A nL K) (hP : va_P g.1 classes (rws g σ) H) (hS : va_S A s.heap H locs) (hl : lo_has g.2.1 ls' nL ls)
    (row : (pc : Int) + off = (tg pc off : Int) → (b = true → W p l e R s m args below meth c H locs cells slots Z (F0 m (tg pc off) ls' (r.map (rv g.2.1)))) → (b = false → W p l e R s m args below meth c H locs cells slots Z (F0 m (pc + 3) ls' (r.map (rv g.2.1)))) → W p l e R s m args below meth c H locs cells slots Z (F0 m pc ls' (st.map (rv g.2.1))))
    (h : XR l d Q pc ls σ K (brI b off pc ls r σ)) : W p l e R s m args below meth c H locs cells slots Z (F0 m pc ls' (st.map (rv g.2.1))) := by
  unfold brI at h
  by_cases ht : 0 ≤ (pc : Int) + off
  · rw [if_pos ht] at h
    refine row (tg_eq ht) (fun hb => ?_) (fun hb => ?_)
    · subst hb
      exact hG _ _ _ _ _ _ _ h hP hS hl
    · subst hb
      exact hG _ _ _ _ _ _ _ h hP hS hl
  · rw [if_neg ht] at h; exact h.elim
end SND
