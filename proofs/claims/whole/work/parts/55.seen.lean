/-! who may have nodded: the leaves, both sides -/
def ft (g u : Nat → Int32) (set nods : Int32) : Nat → Bool
  | 0 => decide (nods &&& (set ^^^ (-1)) = 0)
  | n + 1 => ft g u set nods n && decide (sU (g n) set nods = u n)
theorem ft_s (g u : Nat → Int32) (set nods : Int32) (n : Nat) : ft g u set nods (n + 1) = (ft g u set nods n && decide (sU (g n) set nods = u n)) := by rw [ft]
theorem ft_no {g u : Nat → Int32} {set nods : Int32} {k : Nat} (h : ft g u set nods k = false) : ∀ n, ft g u set nods (k + n) = false := by
  intro n
  induction n with
  | zero => exact h
  | succ n ih => rw [← Nat.add_assoc, ft_s, ih]; rfl
def SC (σ : aW) (n s : Nat) (g u : Nat → Int32) : Prop := σ 103 0 = nI n ∧ n ≤ 8 ∧ σ 9 5 = nI s ∧ s ≤ 8 ∧ (∀ j, j < n → ∃ q, q < s ∧ σ 104 j = nI q ∧ σ 14 q = g j) ∧ ∀ j, j < n → σ 105 j = u j
def SM (σ : aW) (n : Nat) (g u : Nat → Int32) : Prop := σ 109 32 = nI n ∧ n ≤ 8 ∧ (∀ j, j < n → ∃ q, q < 8 ∧ σ 126 j = nI q ∧ σ 113 q = g j) ∧ ∀ j, j < n → σ 127 j = u j
def cnt (P : Nat → Bool) : Nat → Nat
  | 0 => 0
  | k + 1 => if P k = true then cnt P k + 1 else cnt P k
theorem cnt_s (P : Nat → Bool) (k : Nat) : cnt P (k + 1) = if P k = true then cnt P k + 1 else cnt P k := by rw [cnt]
theorem cnt_le (P : Nat → Bool) : ∀ k, cnt P k ≤ k := by
  intro k
  induction k with
  | zero => exact Nat.le_refl 0
  | succ k ih => rw [cnt_s]; split <;> omega
theorem cnt_tail {P : Nat → Bool} {a : Nat} : ∀ b, (∀ k, a ≤ k → k < a + b → P k = false) → cnt P (a + b) = cnt P a := by
  intro b
  induction b with
  | zero => exact fun _ => rfl
  | succ b ih =>
    intro h
    rw [← Nat.add_assoc, cnt_s, h (a + b) (by omega) (by omega), if_neg (by decide), ih (fun k h1 h2 => h k h1 (by omega))]
def ina (P : Nat → Bool) (a : Int32) : Nat → Int32
  | 0 => a
  | k + 1 => if P k = true then ina P a k &&& nI k else ina P a k
theorem ina_s (P : Nat → Bool) (a : Int32) (k : Nat) : ina P a (k + 1) = if P k = true then ina P a k &&& nI k else ina P a k := by rw [ina]
theorem ina_tail {P : Nat → Bool} {x : Int32} {a : Nat} : ∀ b, (∀ k, a ≤ k → k < a + b → P k = false) → ina P x (a + b) = ina P x a := by
  intro b
  induction b with
  | zero => exact fun _ => rfl
  | succ b ih =>
    intro h
    rw [← Nat.add_assoc, ina_s, h (a + b) (by omega) (by omega), if_neg (by decide), ih (fun k h1 h2 => h k h1 (by omega))]
theorem over : ∀ m, m < 64 → ∀ k, k < 64 → m < k → ¬ nI k &&& (nI m ^^^ (-1)) = 0 := by decide +kernel
theorem ft_over {g u : Nat → Int32} {m k : Nat} (hk : k < 64) (h : m < k) (n : Nat) : ft g u (nI m) (nI k) n = false := by
  have := ft_no (g := g) (u := u) (set := nI m) (nods := nI k) (k := 0) (by
    show decide _ = false
    exact decide_eq_false (over m (by omega) k hk h)) n
  rw [Nat.zero_add] at this
  exact this
theorem sh6 : ∀ w, w ≤ 6 → (1 : Int32) <<< (nI w &&& 31) = nI (2 ^ w) := by decide +kernel
section SE
variable {l : Launch} {d : Nat} {σ : aW}
theorem c_sits {s q : Nat} {set nods g : Int32} (hs : σ 9 5 = nI s) (hs8 : s ≤ 8) (hq : q < s) (hg : σ 14 q = g) : Sem l (d + 2) 17 [.ref 9, .int (nI q), .int set, .int nods] σ (some (.int (sU g set nods))) σ := by
  have := c_sitsUp (l := l) (d := d) (σ := σ) (a := 9) (Or.inr rfl) (s := nI q) (set := set) (nods := nods)
  rw [if_neg (nI_pos (by omega)), hs, if_neg (by rw [nile (by omega) (by omega)]; omega), if_neg (by rw [show (8 : Int32) = nI 8 from rfl, nile (by omega) (by omega)]; omega), nic (by omega), show (9 + 5 : Nat) = 14 from rfl, hg] at this
  exact this
theorem c_fits {n s : Nat} {g u : Nat → Int32} {set nods : Int32} (h : SC σ n s g u) : Sem l (d + 3) 38 [.ref 103, .ref 9, .int set, .int nods] σ (some (.int (if ft g u set nods n = true then 1 else 0))) σ := by
  obtain ⟨h1, h2, h3, h4, h5, h6⟩ := h
  refine Sem_of rfl (Nat.le_of_ble_eq_true rfl) ?_
  show aE l (d + 2) none 6 cX6_fits (some .boolean) _ 0 [some (.ref 103), some (.ref 9), some (.int set), some (.int nods), none] [] σ
  by_cases e : nods &&& (set ^^^ (-1)) = 0
  · simp only [eX6_fits_0, eX6_fits_1, eX6_fits_2, eX6_fits_3, eX6_fits_4, eX6_fits_5, eX6_fits_8, eX6_fits_9, eX6_fits_10, eX6_fits_11, fx0, fx1, fx2, fx3, fx4, nl_int, nl_ref, nl_none, nl_ti, rz_nil, rz_int, rz_ref, rz_long, cf1, cf2, Option.toList_some, Option.toList_none, List.cons_append, List.nil_append, e, if_true]
    have : ∀ m k, k + m = n → ft g u set nods k = true → aE l (d + 2) none 6 cX6_fits (some .boolean) (fun r' σ'' => r' = some (.int (if ft g u set nods n = true then 1 else 0)) ∧ σ'' = σ) 13 [some (.ref 103), some (.ref 9), some (.int set), some (.int nods), some (.int (nI k))] [] σ := by
      intro m
      induction m with
      | zero =>
        intro k hkn hf
        have hkn : k = n := by omega
        subst hkn
        have e1 : nI k ≤ nI k := (nile (by omega) (by omega)).mpr (Nat.le_refl k)
        simp only [eX6_fits_13, eX6_fits_15, eX6_fits_16, eX6_fits_19, eX6_fits_60, eX6_fits_61, fx0, fx1, fx2, fx3, fx4, nl_int, nl_ref, nl_none, nl_ti, rz_nil, rz_int, rz_ref, rz_long, cf1, cf2, Option.toList_some, Option.toList_none, List.cons_append, List.nil_append, h1, e1, if_true, hf, true_or, or_true, true_and, and_true, and_self, vp_nar]
      | succ m ih =>
        intro k hkn hf
        have e1 : ¬ nI n ≤ nI k := by rw [nile (by omega) (by omega)]; omega
        have e2 : ¬ (8 : Int32) ≤ nI k := by rw [show (8 : Int32) = nI 8 from rfl, nile (by omega) (by omega)]; omega
        have hin : vp_in (nI k) 8 := vin (by omega) (by omega)
        have hcl : (nI k).toNatClampNeg = k := nic (by omega)
        obtain ⟨q, hq, q1, q2⟩ := h5 k (by omega)
        rw [eX6_fits_13]
        simp only [eX6_fits_15, eX6_fits_16, eX6_fits_19, eX6_fits_22, eX6_fits_24, eX6_fits_26, eX6_fits_29, eX6_fits_30, eX6_fits_31, eX6_fits_34, eX6_fits_36, eX6_fits_37, eX6_fits_38, eX6_fits_39, fx0, fx1, fx2, fx3, fx4, nl_int, nl_ref, nl_none, nl_ti, rz_nil, rz_int, rz_ref, rz_long, cf1, cf2, Option.toList_some, Option.toList_none, List.cons_append, List.nil_append, h1, e1, e2, if_false, hin, hcl, true_and, q1]
        refine aC.of (c_sits h3 h4 hq q2) ?_
        by_cases e3 : sU (g k) set nods = u k
        · simp only [eX6_fits_42, eX6_fits_43, eX6_fits_46, eX6_fits_48, eX6_fits_49, eX6_fits_52, eX6_fits_53, eX6_fits_54, eX6_fits_57, fx0, fx1, fx2, fx3, fx4, nl_int, nl_ref, nl_none, nl_ti, rz_nil, rz_int, rz_ref, rz_long, cf1, cf2, Option.toList_some, Option.toList_none, List.cons_append, List.nil_append, hin, hcl, true_and, h6 k (by omega), e3, if_true, nI_1]
          refine ih (k + 1) (by omega) ?_
          rw [ft_s, hf, e3]
          simp
        · have hno := ft_no (g := g) (u := u) (set := set) (nods := nods) (k := k + 1) (by rw [ft_s, decide_eq_false e3, Bool.and_false]) m
          rw [show k + 1 + m = n by omega] at hno
          simp only [eX6_fits_42, eX6_fits_43, eX6_fits_46, eX6_fits_48, eX6_fits_49, eX6_fits_52, eX6_fits_53, fx0, fx1, fx2, fx3, fx4, nl_int, nl_ref, nl_none, nl_ti, rz_nil, rz_int, rz_ref, rz_long, cf1, cf2, Option.toList_some, Option.toList_none, List.cons_append, List.nil_append, hin, hcl, true_and, h6 k (by omega), e3, if_false, hno, true_or, or_true, true_and, and_true, and_self, vp_nar, Bool.false_eq_true]
    exact this n 0 (by omega) (decide_eq_true e)
  · have hno := ft_no (g := g) (u := u) (set := set) (nods := nods) (k := 0) (decide_eq_false e) n
    rw [Nat.zero_add] at hno
    simp only [eX6_fits_0, eX6_fits_1, eX6_fits_2, eX6_fits_3, eX6_fits_4, eX6_fits_5, eX6_fits_8, eX6_fits_9, fx0, fx1, fx2, fx3, fx4, nl_int, nl_ref, nl_none, nl_ti, rz_nil, rz_int, rz_ref, rz_long, cf1, cf2, Option.toList_some, Option.toList_none, List.cons_append, List.nil_append, e, if_false, hno, true_or, or_true, true_and, and_true, and_self, vp_nar, Bool.false_eq_true]
theorem m_couldNod {n : Nat} {g u : Nat → Int32} {set nods : Int32} (h : SM σ n g u) : Sem l (d + 2) 143 [.ref 109, .int set, .int nods] σ (some (.int (if ft g u set nods n = true then 1 else 0))) σ := by
  obtain ⟨h1, h2, h5, h6⟩ := h
  refine Sem_of rfl (Nat.le_of_ble_eq_true rfl) ?_
  show aE l (d + 1) none 10 cX10_couldNod (some .boolean) _ 0 [some (.ref 109), some (.int set), some (.int nods), none, none] [] σ
  have main : ∀ m k, k + m = n → aE l (d + 1) none 10 cX10_couldNod (some .boolean) (fun r' σ'' => r' = some (.int (if ft g u set nods n = true then 1 else 0)) ∧ σ'' = σ) 17 [some (.ref 109), some (.int set), some (.int nods), some (.int (if ft g u set nods k = true then 1 else 0)), some (.int (nI k))] [] σ := by
    intro m
    induction m with
    | zero =>
      intro k hkn
      have hkn : k = n := by omega
      subst hkn
      have e1 : nI k ≤ nI k := (nile (by omega) (by omega)).mpr (Nat.le_refl k)
      simp only [eX10_couldNod_17, eX10_couldNod_19, eX10_couldNod_20, eX10_couldNod_23, eX10_couldNod_69, eX10_couldNod_70, fx0, fx1, fx2, fx3, fx4, nl_int, nl_ref, nl_none, nl_ti, rz_nil, rz_int, rz_ref, rz_long, cf1, cf2, Option.toList_some, Option.toList_none, List.cons_append, List.nil_append, h1, e1, if_true, true_or, or_true, true_and, and_true, and_self, vp_nar]
      by_cases e : ft g u set nods k = true
      · simp only [e, if_true, true_or, or_true, true_and, and_true, and_self]
      · simp only [e, if_false, true_or, or_true, true_and, and_true, and_self, Bool.false_eq_true]
    | succ m ih =>
      intro k hkn
      have e1 : ¬ nI n ≤ nI k := by rw [nile (by omega) (by omega)]; omega
      have hin : vp_in (nI k) 8 := vin (by omega) (by omega)
      have hcl : (nI k).toNatClampNeg = k := nic (by omega)
      obtain ⟨q, hq, q1, q2⟩ := h5 k (by omega)
      have hin2 : vp_in (nI q) 8 := vin (by omega) (by omega)
      have hcl2 : (nI q).toNatClampNeg = q := nic (by omega)
      have key := ih (k + 1) (by omega)
      rw [ft_s] at key
      rw [eX10_couldNod_17]
      simp only [eX10_couldNod_19, eX10_couldNod_20, eX10_couldNod_23, eX10_couldNod_26, fx0, fx1, fx2, fx3, fx4, nl_int, nl_ref, nl_none, nl_ti, rz_nil, rz_int, rz_ref, rz_long, cf1, cf2, Option.toList_some, Option.toList_none, List.cons_append, List.nil_append, h1, e1, if_false]
      by_cases e : ft g u set nods k = true
      · rw [e, Bool.true_and] at key
        simp only [eX10_couldNod_27, eX10_couldNod_30, eX10_couldNod_31, eX10_couldNod_34, eX10_couldNod_35, eX10_couldNod_38, eX10_couldNod_40, eX10_couldNod_41, eX10_couldNod_42, eX10_couldNod_43, eX10_couldNod_44, fx0, fx1, fx2, fx3, fx4, nl_int, nl_ref, nl_none, nl_ti, rz_nil, rz_int, rz_ref, rz_long, cf1, cf2, Option.toList_some, Option.toList_none, List.cons_append, List.nil_append, e, if_true, show ¬ (1 : Int32) = 0 by decide, if_false, hin, hcl, true_and, q1, hin2, hcl2, q2]
        refine aC.of m_sitsUp ?_
        by_cases e3 : sU (g k) set nods = u k
        · rw [decide_eq_true e3, if_pos rfl] at key
          simp only [eX10_couldNod_47, eX10_couldNod_48, eX10_couldNod_51, eX10_couldNod_53, eX10_couldNod_54, eX10_couldNod_57, eX10_couldNod_58, eX10_couldNod_61, eX10_couldNod_62, eX10_couldNod_63, eX10_couldNod_66, fx0, fx1, fx2, fx3, fx4, nl_int, nl_ref, nl_none, nl_ti, rz_nil, rz_int, rz_ref, rz_long, cf1, cf2, Option.toList_some, Option.toList_none, List.cons_append, List.nil_append, hin, hcl, true_and, h6 k (by omega), e3, if_true, nI_1]
          exact key
        · rw [decide_eq_false e3, if_neg Bool.false_ne_true] at key
          simp only [eX10_couldNod_47, eX10_couldNod_48, eX10_couldNod_51, eX10_couldNod_53, eX10_couldNod_54, eX10_couldNod_57, eX10_couldNod_58, eX10_couldNod_61, eX10_couldNod_62, eX10_couldNod_63, eX10_couldNod_66, fx0, fx1, fx2, fx3, fx4, nl_int, nl_ref, nl_none, nl_ti, rz_nil, rz_int, rz_ref, rz_long, cf1, cf2, Option.toList_some, Option.toList_none, List.cons_append, List.nil_append, hin, hcl, true_and, h6 k (by omega), e3, if_false, nI_1]
          exact key
      · rw [Bool.not_eq_true] at e
        rw [e, Bool.false_and, if_neg Bool.false_ne_true] at key
        simp only [eX10_couldNod_27, eX10_couldNod_61, eX10_couldNod_62, eX10_couldNod_63, eX10_couldNod_66, fx0, fx1, fx2, fx3, fx4, nl_int, nl_ref, nl_none, nl_ti, rz_nil, rz_int, rz_ref, rz_long, cf1, cf2, Option.toList_some, Option.toList_none, List.cons_append, List.nil_append, e, if_true, if_false, nI_1, Bool.false_eq_true]
        exact key
  have := main n 0 (by omega)
  by_cases e : nods &&& (set ^^^ (-1)) = 0
  · rw [show ft g u set nods 0 = true from decide_eq_true e, if_pos rfl] at this
    simp only [eX10_couldNod_0, eX10_couldNod_1, eX10_couldNod_2, eX10_couldNod_3, eX10_couldNod_4, eX10_couldNod_5, eX10_couldNod_8, eX10_couldNod_9, eX10_couldNod_12, eX10_couldNod_13, eX10_couldNod_14, eX10_couldNod_15, fx0, fx1, fx2, fx3, fx4, nl_int, nl_ref, nl_none, nl_ti, rz_nil, rz_int, rz_ref, rz_long, cf1, cf2, Option.toList_some, Option.toList_none, List.cons_append, List.nil_append, e, if_true]
    exact this
  · rw [show ft g u set nods 0 = false from decide_eq_false e, if_neg Bool.false_ne_true] at this
    simp only [eX10_couldNod_0, eX10_couldNod_1, eX10_couldNod_2, eX10_couldNod_3, eX10_couldNod_4, eX10_couldNod_5, eX10_couldNod_8, eX10_couldNod_9, eX10_couldNod_12, eX10_couldNod_13, eX10_couldNod_14, eX10_couldNod_15, fx0, fx1, fx2, fx3, fx4, nl_int, nl_ref, nl_none, nl_ti, rz_nil, rz_int, rz_ref, rz_long, cf1, cf2, Option.toList_some, Option.toList_none, List.cons_append, List.nil_append, e, if_false]
    exact this
theorem c_count {n s m : Nat} {g u : Nat → Int32} (h : SC σ n s g u) (hm : m < 64) : Sem l (d + 4) 39 [.ref 103, .ref 9, .int (nI m)] σ (some (.int (nI (cnt (fun k => ft g u (nI m) (nI k) n) (m + 1))))) σ := by
  refine Sem_of rfl (Nat.le_of_ble_eq_true rfl) ?_
  show aE l (d + 3) none 6 cX6_countFitting (some .int) _ 0 [some (.ref 103), some (.ref 9), some (.int (nI m)), none, none] [] σ
  simp only [eX6_countFitting_0, eX6_countFitting_1, eX6_countFitting_2, eX6_countFitting_3, fx0, fx1, fx2, fx3, fx4, nl_int, nl_ref, nl_none, nl_ti, rz_nil, rz_int, rz_ref, rz_long, cf1, cf2, Option.toList_some, Option.toList_none, List.cons_append, List.nil_append]
  have main : ∀ j k, k + j = m + 1 → aE l (d + 3) none 6 cX6_countFitting (some .int) (fun r' σ'' => r' = some (.int (nI (cnt (fun k => ft g u (nI m) (nI k) n) (m + 1)))) ∧ σ'' = σ) 5 [some (.ref 103), some (.ref 9), some (.int (nI m)), some (.int (nI (cnt (fun k => ft g u (nI m) (nI k) n) k))), some (.int (nI k))] [] σ := by
    intro j
    induction j with
    | zero =>
      intro k hkn
      have hkn : k = m + 1 := by omega
      subst hkn
      have e1 : nI m < nI (m + 1) := (nilt (by omega) (by omega)).mpr (by omega)
      simp only [eX6_countFitting_5, eX6_countFitting_7, eX6_countFitting_8, eX6_countFitting_38, eX6_countFitting_39, fx0, fx1, fx2, fx3, fx4, nl_int, nl_ref, nl_none, nl_ti, rz_nil, rz_int, rz_ref, rz_long, cf1, cf2, Option.toList_some, Option.toList_none, List.cons_append, List.nil_append, e1, if_true, true_or, or_true, true_and, and_true, and_self]
    | succ j ih =>
      intro k hkn
      have e1 : ¬ nI m < nI k := by rw [nilt (by omega) (by omega)]; omega
      have e2 : ¬ (64 : Int32) ≤ nI k := by rw [show (64 : Int32) = nI 64 from rfl, nile (by omega) (by omega)]; omega
      have key := ih (k + 1) (by omega)
      rw [cnt_s _ k] at key
      rw [eX6_countFitting_5]
      simp only [eX6_countFitting_7, eX6_countFitting_8, eX6_countFitting_11, eX6_countFitting_13, eX6_countFitting_15, eX6_countFitting_18, eX6_countFitting_19, eX6_countFitting_20, eX6_countFitting_21, eX6_countFitting_23, fx0, fx1, fx2, fx3, fx4, nl_int, nl_ref, nl_none, nl_ti, rz_nil, rz_int, rz_ref, rz_long, cf1, cf2, Option.toList_some, Option.toList_none, List.cons_append, List.nil_append, e1, e2, if_false]
      refine aC.of (c_fits h) ?_
      by_cases e : ft g u (nI m) (nI k) n = true
      · rw [if_pos e] at key
        simp only [eX6_countFitting_26, eX6_countFitting_29, eX6_countFitting_32, eX6_countFitting_35, fx0, fx1, fx2, fx3, fx4, nl_int, nl_ref, nl_none, nl_ti, rz_nil, rz_int, rz_ref, rz_long, cf1, cf2, Option.toList_some, Option.toList_none, List.cons_append, List.nil_append, e, if_true, show ¬ (1 : Int32) = 0 by decide, if_false, nI_1]
        exact key
      · rw [if_neg e] at key
        simp only [eX6_countFitting_26, eX6_countFitting_32, eX6_countFitting_35, fx0, fx1, fx2, fx3, fx4, nl_int, nl_ref, nl_none, nl_ti, rz_nil, rz_int, rz_ref, rz_long, cf1, cf2, Option.toList_some, Option.toList_none, List.cons_append, List.nil_append, e, if_true, if_false, nI_1]
        exact key
  exact main (m + 1) 0 (by omega)
theorem c_inAll {n s m : Nat} {g u : Nat → Int32} (h : SC σ n s g u) (hm : m < 64) : Sem l (d + 5) 40 [.ref 103, .ref 9, .int (nI m)] σ (some (.int (if cnt (fun k => ft g u (nI m) (nI k) n) (m + 1) = 0 then 0 else ina (fun k => ft g u (nI m) (nI k) n) (nI m) (m + 1)))) σ := by
  refine Sem_of rfl (Nat.le_of_ble_eq_true rfl) ?_
  show aE l (d + 4) none 6 cX6_inAllFitting (some .int) _ 0 [some (.ref 103), some (.ref 9), some (.int (nI m)), none, none] [] σ
  simp only [eX6_inAllFitting_0, eX6_inAllFitting_1, eX6_inAllFitting_2, eX6_inAllFitting_3, fx0, fx1, fx2, fx3, fx4, nl_int, nl_ref, nl_none, nl_ti, rz_nil, rz_int, rz_ref, rz_long, cf1, cf2, Option.toList_some, Option.toList_none, List.cons_append, List.nil_append]
  refine aC.of (c_count h hm) ?_
  have hc := cnt_le (fun k => ft g u (nI m) (nI k) n) (m + 1)
  by_cases e0 : cnt (fun k => ft g u (nI m) (nI k) n) (m + 1) = 0
  · rw [e0]
    simp only [eX6_inAllFitting_6, eX6_inAllFitting_9, eX6_inAllFitting_10, fx0, fx1, fx2, fx3, fx4, nl_int, nl_ref, nl_none, nl_ti, rz_nil, rz_int, rz_ref, rz_long, cf1, cf2, Option.toList_some, Option.toList_none, List.cons_append, List.nil_append, show nI 0 = 0 from rfl, if_true, true_or, or_true, true_and, and_true, and_self]
  · have e0' : ¬ nI (cnt (fun k => ft g u (nI m) (nI k) n) (m + 1)) = 0 := nI_ne0 (by omega) (by omega)
    rw [if_neg e0]
    simp only [eX6_inAllFitting_6, eX6_inAllFitting_9, eX6_inAllFitting_10, eX6_inAllFitting_11, eX6_inAllFitting_12, eX6_inAllFitting_13, eX6_inAllFitting_14, fx0, fx1, fx2, fx3, fx4, nl_int, nl_ref, nl_none, nl_ti, rz_nil, rz_int, rz_ref, rz_long, cf1, cf2, Option.toList_some, Option.toList_none, List.cons_append, List.nil_append, e0', if_false]
    have main : ∀ j k, k + j = m + 1 → aE l (d + 4) none 6 cX6_inAllFitting (some .int) (fun r' σ'' => r' = some (.int (ina (fun k => ft g u (nI m) (nI k) n) (nI m) (m + 1))) ∧ σ'' = σ) 16 [some (.ref 103), some (.ref 9), some (.int (nI m)), some (.int (ina (fun k => ft g u (nI m) (nI k) n) (nI m) k)), some (.int (nI k))] [] σ := by
      intro j
      induction j with
      | zero =>
        intro k hkn
        have hkn : k = m + 1 := by omega
        subst hkn
        have e1 : nI m < nI (m + 1) := (nilt (by omega) (by omega)).mpr (by omega)
        simp only [eX6_inAllFitting_16, eX6_inAllFitting_18, eX6_inAllFitting_19, eX6_inAllFitting_51, eX6_inAllFitting_52, fx0, fx1, fx2, fx3, fx4, nl_int, nl_ref, nl_none, nl_ti, rz_nil, rz_int, rz_ref, rz_long, cf1, cf2, Option.toList_some, Option.toList_none, List.cons_append, List.nil_append, e1, if_true, true_or, or_true, true_and, and_true, and_self]
      | succ j ih =>
        intro k hkn
        have e1 : ¬ nI m < nI k := by rw [nilt (by omega) (by omega)]; omega
        have e2 : ¬ (64 : Int32) ≤ nI k := by rw [show (64 : Int32) = nI 64 from rfl, nile (by omega) (by omega)]; omega
        have key := ih (k + 1) (by omega)
        rw [ina_s _ _ k] at key
        rw [eX6_inAllFitting_16]
        simp only [eX6_inAllFitting_18, eX6_inAllFitting_19, eX6_inAllFitting_22, eX6_inAllFitting_24, eX6_inAllFitting_26, eX6_inAllFitting_29, eX6_inAllFitting_30, eX6_inAllFitting_31, eX6_inAllFitting_32, eX6_inAllFitting_34, fx0, fx1, fx2, fx3, fx4, nl_int, nl_ref, nl_none, nl_ti, rz_nil, rz_int, rz_ref, rz_long, cf1, cf2, Option.toList_some, Option.toList_none, List.cons_append, List.nil_append, e1, e2, if_false]
        refine aC.of (c_fits h) ?_
        by_cases e : ft g u (nI m) (nI k) n = true
        · rw [if_pos e] at key
          simp only [eX6_inAllFitting_37, eX6_inAllFitting_40, eX6_inAllFitting_41, eX6_inAllFitting_43, eX6_inAllFitting_44, eX6_inAllFitting_45, eX6_inAllFitting_48, fx0, fx1, fx2, fx3, fx4, nl_int, nl_ref, nl_none, nl_ti, rz_nil, rz_int, rz_ref, rz_long, cf1, cf2, Option.toList_some, Option.toList_none, List.cons_append, List.nil_append, e, if_true, show ¬ (1 : Int32) = 0 by decide, if_false, nI_1]
          exact key
        · rw [if_neg e] at key
          simp only [eX6_inAllFitting_37, eX6_inAllFitting_45, eX6_inAllFitting_48, fx0, fx1, fx2, fx3, fx4, nl_int, nl_ref, nl_none, nl_ti, rz_nil, rz_int, rz_ref, rz_long, cf1, cf2, Option.toList_some, Option.toList_none, List.cons_append, List.nil_append, e, if_true, if_false, nI_1]
          exact key
    exact main (m + 1) 0 (by omega)
theorem m_sureOf {n w m : Nat} {g u : Nat → Int32} (h : SM σ n g u) (hw : σ 109 4 = nI w) (hw6 : w ≤ 6) : Sem l (d + 3) 144 [.ref 109, .int (nI m)] σ (some (.int (if cnt (fun k => ft g u (nI m) (nI k) n) (2 ^ w) = 0 then 0 else ina (fun k => ft g u (nI m) (nI k) n) (nI m) (2 ^ w)))) σ := by
  refine Sem_of rfl (Nat.le_of_ble_eq_true rfl) ?_
  show aE l (d + 2) none 10 cX10_sureOf (some .int) _ 0 [some (.ref 109), some (.int (nI m)), none, none, none] [] σ
  have hp : 2 ^ w ≤ 2 ^ 6 := Nat.pow_le_pow_right (by decide) hw6
  simp only [eX10_sureOf_0, eX10_sureOf_1, eX10_sureOf_2, eX10_sureOf_3, eX10_sureOf_4, eX10_sureOf_5, fx0, fx1, fx2, fx3, fx4, nl_int, nl_ref, nl_none, nl_ti, rz_nil, rz_int, rz_ref, rz_long, cf1, cf2, Option.toList_some, Option.toList_none, List.cons_append, List.nil_append]
  have main : ∀ j k, k + j = 2 ^ w → aE l (d + 2) none 10 cX10_sureOf (some .int) (fun r' σ'' => r' = some (.int (if cnt (fun k => ft g u (nI m) (nI k) n) (2 ^ w) = 0 then 0 else ina (fun k => ft g u (nI m) (nI k) n) (nI m) (2 ^ w))) ∧ σ'' = σ) 7 [some (.ref 109), some (.int (nI m)), some (.int (ina (fun k => ft g u (nI m) (nI k) n) (nI m) k)), some (.int (if cnt (fun k => ft g u (nI m) (nI k) n) k = 0 then 0 else 1)), some (.int (nI k))] [] σ := by
    intro j
    induction j with
    | zero =>
      intro k hkn
      have hkn : k = 2 ^ w := by omega
      rw [← hkn]
      have e1 : nI k ≤ nI k := (nile (by omega) (by omega)).mpr (Nat.le_refl _)
      rw [eX10_sureOf_7]
      simp only [eX10_sureOf_9, eX10_sureOf_10, eX10_sureOf_11, eX10_sureOf_14, eX10_sureOf_15, fx0, fx1, fx2, fx3, fx4, nl_int, nl_ref, nl_none, nl_ti, rz_nil, rz_int, rz_ref, rz_long, cf1, cf2, Option.toList_some, Option.toList_none, List.cons_append, List.nil_append, hw, sh6 w hw6, ← hkn, e1, if_true]
      by_cases e0 : cnt (fun k => ft g u (nI m) (nI k) n) k = 0
      · simp only [eX10_sureOf_41, eX10_sureOf_42, eX10_sureOf_45, eX10_sureOf_46, eX10_sureOf_49, eX10_sureOf_50, fx0, fx1, fx2, fx3, fx4, nl_int, nl_ref, nl_none, nl_ti, rz_nil, rz_int, rz_ref, rz_long, cf1, cf2, Option.toList_some, Option.toList_none, List.cons_append, List.nil_append, e0, if_true, true_or, or_true, true_and, and_true, and_self]
      · simp only [eX10_sureOf_41, eX10_sureOf_42, eX10_sureOf_45, eX10_sureOf_46, eX10_sureOf_49, eX10_sureOf_50, fx0, fx1, fx2, fx3, fx4, nl_int, nl_ref, nl_none, nl_ti, rz_nil, rz_int, rz_ref, rz_long, cf1, cf2, Option.toList_some, Option.toList_none, List.cons_append, List.nil_append, e0, if_false, show ¬ (1 : Int32) = 0 by decide, true_or, or_true, true_and, and_true, and_self]
    | succ j ih =>
      intro k hkn
      have e1 : ¬ nI (2 ^ w) ≤ nI k := by rw [nile (by omega) (by omega)]; omega
      have key := ih (k + 1) (by omega)
      rw [ina_s _ _ k, cnt_s _ k] at key
      rw [eX10_sureOf_7]
      simp only [eX10_sureOf_9, eX10_sureOf_10, eX10_sureOf_11, eX10_sureOf_14, eX10_sureOf_15, eX10_sureOf_18, eX10_sureOf_19, eX10_sureOf_20, eX10_sureOf_22, fx0, fx1, fx2, fx3, fx4, nl_int, nl_ref, nl_none, nl_ti, rz_nil, rz_int, rz_ref, rz_long, cf1, cf2, Option.toList_some, Option.toList_none, List.cons_append, List.nil_append, hw, sh6 w hw6, e1, if_false]
      refine aC.of (m_couldNod h) ?_
      by_cases e : ft g u (nI m) (nI k) n = true
      · rw [if_pos e, if_pos e, if_neg (Nat.succ_ne_zero _)] at key
        simp only [eX10_sureOf_25, eX10_sureOf_28, eX10_sureOf_29, eX10_sureOf_31, eX10_sureOf_32, eX10_sureOf_33, eX10_sureOf_34, eX10_sureOf_35, eX10_sureOf_38, fx0, fx1, fx2, fx3, fx4, nl_int, nl_ref, nl_none, nl_ti, rz_nil, rz_int, rz_ref, rz_long, cf1, cf2, Option.toList_some, Option.toList_none, List.cons_append, List.nil_append, e, if_true, show ¬ (1 : Int32) = 0 by decide, if_false, nI_1]
        exact key
      · rw [if_neg e, if_neg e] at key
        simp only [eX10_sureOf_25, eX10_sureOf_35, eX10_sureOf_38, fx0, fx1, fx2, fx3, fx4, nl_int, nl_ref, nl_none, nl_ti, rz_nil, rz_int, rz_ref, rz_long, cf1, cf2, Option.toList_some, Option.toList_none, List.cons_append, List.nil_append, e, if_true, if_false, nI_1]
        exact key
  exact main (2 ^ w) 0 (by omega)
end SE
