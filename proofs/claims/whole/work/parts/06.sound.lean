/-! SOUNDNESS of the abstract machine: what aX says of a run, the machine does, in every heap that holds the shape. -/
theorem rws_at (g : aG) (σ : aW) {p : Nat} (h : p < NP) : (rws g σ)[p]? = some (g.2.1 p, rc g p (σ p)) := by
  unfold rws
  rw [List.getElem?_map, List.getElem?_range h]
  rfl
theorem rws_len (g : aG) (σ : aW) : (rws g σ).length = NP := by simp [rws]
theorem rws_inv {g : aG} {σ : aW} {i : Nat} {q : Nat × va_E} (h : (rws g σ)[i]? = some q) : i < NP ∧ q = (g.2.1 i, rc g i (σ i)) := by
  have hi : i < (rws g σ).length := (List.getElem?_eq_some_iff.mp h).1
  rw [rws_len] at hi
  rw [rws_at g σ hi] at h
  exact ⟨hi, (Option.some.inj h).symm⟩
theorem rws_set {g : aG} {σ : aW} {p : Nat} {f : Nat → Int32} (h : p < NP) : (rws g σ).set p (g.2.1 p, rc g p f) = rws g (fun a => if a = p then f else σ a) := by
  apply List.ext_getElem?
  intro i
  rw [List.getElem?_set]
  by_cases hi : p = i
  · subst hi
    rw [if_pos rfl, if_pos (by rw [rws_len]; exact h), rws_at _ _ h, if_pos rfl]
  · rw [if_neg hi]
    by_cases hn : i < NP
    · rw [rws_at _ _ hn, rws_at _ _ hn, if_neg (Ne.symm hi)]
    · rw [List.getElem?_eq_none (by rw [rws_len]; omega), List.getElem?_eq_none (by rw [rws_len]; omega)]
theorem rws_D {g : aG} {σ : aW} {A : Nat → Prop} (hinj : ∀ i j, i < NP → j < NP → g.2.1 i = g.2.1 j → i = j) (hAd : ∀ i, i < NP → A (g.2.1 i)) : va_D A (rws g σ) := by
  refine ⟨fun i j p q h1 h2 h3 => ?_, fun k q h => ?_⟩
  · obtain ⟨a1, rfl⟩ := rws_inv h1
    obtain ⟨b1, rfl⟩ := rws_inv h2
    exact hinj i j a1 b1 h3
  · obtain ⟨a1, rfl⟩ := rws_inv h
    exact hAd k a1
theorem rws_A {g : aG} {σ σ' : aW} {sz : Nat} {q : Nat} (h : va_A (rws g σ) sz q) : va_A (rws g σ') sz q := by
  rcases h with ⟨k, e, h⟩ | h
  · obtain ⟨a1, a2⟩ := rws_inv h
    cases a2
    exact Or.inl ⟨k, _, rws_at g σ' a1⟩
  · exact Or.inr h
theorem shl_lt {a : Nat} {q : aS} (h : shl[a]? = some q) : a < NP := by
  have := (List.getElem?_eq_some_iff.mp h).1
  rw [shl_len] at this
  exact this
theorem cls_spec {a ci : Nat} (h : cls a = ci) (hc : ci ≠ 99) : ∃ sl, shl[a]? = some (.inl (ci, sl)) := by
  unfold cls at h
  split at h
  · next q hq => exact ⟨q.2, by rw [hq, ← h]⟩
  · exact absurd h.symm hc
theorem akd_spec {a k : Nat} (h : akd a = k) (hc : k ≠ 99) : ∃ n t, shl[a]? = some (.inr (k, n, t)) ∧ aln a = n := by
  unfold akd at h
  split at h
  · next q hq => exact ⟨q.2.1, q.2.2, by rw [hq, ← h], by unfold aln; rw [hq]⟩
  · exact absurd h.symm hc
theorem slt_at {a ci : Nat} {sl : List (Option Nat)} (h : shl[a]? = some (.inl (ci, sl))) (k : Nat) : slt a k = sl[k]? := by
  unfold slt
  rw [h]
def layB (q : aS) : Bool := match q with
  | .inl q => match classes[q.1]? with
    | some r => (List.range q.2.length).all (fun k => match q.2[k]? with
      | some none => decide ((r.2.1 k).2.2.2 = false) && decide ((r.2.1 k).2.2.1 = "I")
      | _ => true)
    | none => false
  | .inr q => decide (q.1 < 4) && (decide (q.1 < 2) || decide (q.2.2.length = q.2.1))
theorem lay_all : shl.all layB = true := by decide +kernel
theorem lay_ok {a ci k : Nat} {sl : List (Option Nat)} (h : shl[a]? = some (.inl (ci, sl))) (hk : sl[k]? = some none) {C : String} {T : u_T} {N : Nat} (hc : classes[ci]? = some (C, T, N)) : (T k).2.2.2 = false ∧ (T k).2.2.1 = "I" := by
  have h1 := List.all_eq_true.mp lay_all _ (List.mem_of_getElem? h)
  unfold layB at h1
  simp only [hc] at h1
  have hl : k < sl.length := (List.getElem?_eq_some_iff.mp hk).1
  have h2 := List.all_eq_true.mp h1 k (List.mem_range.mpr hl)
  simp only [hk, Bool.and_eq_true, decide_eq_true_eq] at h2
  exact h2
theorem lay_arr {a k n : Nat} {t : List Nat} (h : shl[a]? = some (.inr (k, n, t))) : k < 4 ∧ (k < 2 ∨ t.length = n) := by
  have h1 := List.all_eq_true.mp lay_all _ (List.mem_of_getElem? h)
  unfold layB at h1
  simp only [Bool.and_eq_true, Bool.or_eq_true, decide_eq_true_eq] at h1
  exact h1
theorem rfs_at (ad : Nat → Nat) (f : Nat → Int32) (sl : List (Option Nat)) (k : Nat) : (rfs ad f sl)[k]? = (sl[k]?).map (fun o => match o with
  | none => .int (f k)
  | some t => .ref (ad t)) := by
  unfold rfs
  rw [List.getElem?_mapIdx]
  cases sl[k]? with
  | none => rfl
  | some x => cases x <;> rfl
theorem rfs_set (ad : Nat → Nat) (f : Nat → Int32) (sl : List (Option Nat)) (k : Nat) (v : Int32) (hk : sl[k]? = some none) : (rfs ad f sl).set k (.int v) = rfs ad (upd f k v) sl := by
  apply List.ext_getElem?
  intro i
  rw [List.getElem?_set]
  have hl : k < sl.length := (List.getElem?_eq_some_iff.mp hk).1
  by_cases hi : k = i
  · subst hi
    rw [if_pos rfl, if_pos (by simp [rfs]; exact hl), rfs_at, hk]
    simp [upd]
  · rw [if_neg hi, rfs_at, rfs_at]
    cases sl[i]? with
    | none => rfl
    | some x =>
      cases x with
      | none => simp [upd, Ne.symm hi]
      | some t => rfl
theorem rv_cat (ad : Nat → Nat) (v : Value) : (rv ad v).category = v.category := by cases v <;> rfl
theorem rsz_map (ad : Nat → Nat) : ∀ st : List Value, ((st.map (rv ad)).map (fun v => v.category)).sum = rsz st
  | [] => rfl
  | v :: t => by
    show (rv ad v).category + ((t.map (rv ad)).map (fun v => v.category)).sum = _
    rw [rv_cat, rsz_map ad t]
    rfl
def lo_has (ad : Nat → Nat) (ls' : Array Slot) (nL : Nat) (ls : aL) : Prop := ls.length = nL ∧ ls'.size = nL ∧ lv_wf ls' ∧ ∀ (k : Nat) (v : Value), ls[k]? = some (some v) → ls'[k]? = some (.val (rv ad v))
def lvl (ad : Nat → Nat) (ls : aL) : List (Nat × Value) := (List.range ls.length).filterMap (fun k => ((ls[k]?).join).map (fun v => (k, rv ad v)))
theorem lvl_mem {ad : Nat → Nat} {ls : aL} {q : Nat × Value} : q ∈ lvl ad ls ↔ ∃ v, ls[q.1]? = some (some v) ∧ q.2 = rv ad v := by
  unfold lvl
  rw [List.mem_filterMap]
  constructor
  · rintro ⟨k, -, h⟩
    cases hj : ls[k]? with
    | none => rw [hj] at h; cases h
    | some x =>
      cases x with
      | none => rw [hj] at h; cases h
      | some v =>
        rw [hj] at h
        cases h
        exact ⟨v, hj, rfl⟩
  · rintro ⟨v, h1, h2⟩
    refine ⟨q.1, List.mem_range.mpr (List.getElem?_eq_some_iff.mp h1).1, ?_⟩
    rw [h1]
    show some (q.1, rv ad v) = some q
    rw [← h2]
theorem lo_has.lv {ad : Nat → Nat} {ls' : Array Slot} {nL : Nat} {ls : aL} (h : lo_has ad ls' nL ls) : lv_has ls' nL (lvl ad ls) := by
  refine ⟨h.2.1, h.2.2.1, fun q hq => ?_⟩
  obtain ⟨v, h1, h2⟩ := lvl_mem.mp hq
  rw [h2]
  exact h.2.2.2 _ _ h1
theorem join_at {ls : aL} {k : Nat} {v : Value} (h : (ls[k]?).join = some v) : ls[k]? = some (some v) := by
  cases hj : ls[k]? with
  | none => rw [hj] at h; cases h
  | some x => rw [hj] at h; rw [show x = some v from h]
theorem lok_cat {ls : aL} {i k : Nat} {v : Value} (h : lok ls i = true) (hk : ls[k]? = some (some v)) (e : k + 1 = i) : v.category ≠ 2 := by
  subst e
  have h : nl (ls[k]?).join = true := h
  rw [hk] at h
  cases v <;> first | exact absurd h Bool.false_ne_true | (intro q; cases q)
theorem lo_set1 {ad : Nat → Nat} {ls'' : Array Slot} {nL i : Nat} {ls : aL} {v : Value} (hlen : ls.length = nL) (hi : i < nL) (hok : lok ls i = true) (h : lv_has ls'' nL ((i, rv ad v) :: (lvl ad ls).filter (fun q => !(q.1 == i) && !(q.1 + 1 == i && q.2.category == 2)))) : lo_has ad ls'' nL (ls.set i (some v)) := by
  refine ⟨by simp [hlen], h.1, h.2.1, fun k w hk => ?_⟩
  rw [List.getElem?_set] at hk
  by_cases e : i = k
  · subst e
    rw [if_pos rfl, if_pos (by rw [hlen]; exact hi)] at hk
    cases hk
    exact h.2.2 (i, rv ad v) List.mem_cons_self
  · rw [if_neg e] at hk
    refine h.2.2 (k, rv ad w) (List.mem_cons_of_mem _ (List.mem_filter.mpr ⟨lvl_mem.mpr ⟨w, hk, rfl⟩, ?_⟩))
    have e1 : (k == i) = false := by simp; exact fun q => e q.symm
    have e2 : (k + 1 == i && (rv ad w).category == 2) = false := by
      by_cases e3 : k + 1 = i
      · have := lok_cat hok hk e3
        rw [rv_cat]
        simp [this]
      · simp [e3]
    simp only [e1, e2]
    rfl
theorem lo_set2 {ad : Nat → Nat} {ls'' : Array Slot} {nL i : Nat} {ls : aL} {v : Value} (hlen : ls.length = nL) (hi : i + 1 < nL) (hok : lok ls i = true) (h : lv_has ls'' nL ((i, rv ad v) :: (lvl ad ls).filter (fun q => !(q.1 == i) && (!(q.1 == i + 1) && !(q.1 + 1 == i && q.2.category == 2))))) : lo_has ad ls'' nL ((ls.set i (some v)).set (i + 1) none) := by
  refine ⟨by simp [hlen], h.1, h.2.1, fun k w hk => ?_⟩
  rw [List.getElem?_set] at hk
  by_cases e0 : i + 1 = k
  · rw [if_pos e0] at hk
    split at hk <;> cases hk
  · rw [if_neg e0, List.getElem?_set] at hk
    by_cases e : i = k
    · subst e
      rw [if_pos rfl, if_pos (by rw [hlen]; omega)] at hk
      cases hk
      exact h.2.2 (i, rv ad v) List.mem_cons_self
    · rw [if_neg e] at hk
      refine h.2.2 (k, rv ad w) (List.mem_cons_of_mem _ (List.mem_filter.mpr ⟨lvl_mem.mpr ⟨w, hk, rfl⟩, ?_⟩))
      have e1 : (k == i) = false := by simp; exact fun q => e q.symm
      have e4 : (k == i + 1) = false := by simp; exact fun q => e0 q.symm
      have e2 : (k + 1 == i && (rv ad w).category == 2) = false := by
        by_cases e3 : k + 1 = i
        · have := lok_cat hok hk e3
          rw [rv_cat]
          simp [this]
        · simp [e3]
      simp only [e1, e2, e4]
      rfl
