/-! a number of the text: both sides -/
def nP (tx : Nat → Int32) (n p : Nat) : Nat := sk tx n p
def nE (tx : Nat → Int32) (n p : Nat) : Nat := fgF tx n (n - sk tx n p) (sk tx n p)
def nK (tx : Nat → Int32) (n p : Nat) : Nat := nE tx n p - nP tx n p
def nV (tx : Nat → Int32) (n p : Nat) : Int32 := cvF tx (nP tx n p) (nK tx n p)
def nC (tx : Nat → Int32) (n p : Nat) (lo hi : Int32) : Int32 := if nK tx n p = 0 then 1 else if 3 < nK tx n p ∨ nV tx n p < lo ∨ hi < nV tx n p then 2 else 0
section NU
variable {l : Launch} {d : Nat} {σ : aW}
theorem c_readNo {k : Int32} {lo hi : Int32} (h5 : σ 1 5 = k) (hk : ¬ k = 0) : Sem l (d + 1) 30 [.ref 1, .int lo, .int hi] σ (some (.int lo)) σ := by
  refine Sem_of rfl (Nat.le_of_ble_eq_true rfl) ?_
  show aE l d none 5 cX5_readNumber (some .int) _ 0 [some (.ref 1), some (.int lo), some (.int hi), none, none, none] [] σ
  simp only [eX5_readNumber_0, eX5_readNumber_1, eX5_readNumber_4, eX5_readNumber_7, eX5_readNumber_8, fx0, fx1, fx2, fx3, fx4, nl_int, nl_ref, nl_none, nl_ti, rz_nil, rz_int, rz_ref, rz_long, cf1, cf2, Option.toList_some, Option.toList_none, List.cons_append, List.nil_append, h5, hk, if_false, true_or, or_true, true_and, and_true, and_self]
theorem c_readNumber {n p : Nat} {lo hi : Int32} (h1 : σ 1 1 = nI n) (hn : n ≤ 220) (h4 : σ 1 4 = nI p) (hp : p ≤ n) (h5 : σ 1 5 = 0) : Sem l (d + 3) 30 [.ref 1, .int lo, .int hi] σ (some (.int (nV (σ 8) n p))) (if nC (σ 8) n p lo hi = 0 then su σ 1 4 (nI (nE (σ 8) n p)) else su (su (su σ 1 4 (nI (nE (σ 8) n p))) 1 5 (nC (σ 8) n p lo hi)) 1 2 (nI (nP (σ 8) n p))) := by
  refine Sem_of rfl (Nat.le_of_ble_eq_true rfl) ?_
  show aE l (d + 2) none 5 cX5_readNumber (some .int) _ 0 [some (.ref 1), some (.int lo), some (.int hi), none, none, none] [] σ
  simp only [eX5_readNumber_0, eX5_readNumber_1, eX5_readNumber_4, eX5_readNumber_7, eX5_readNumber_8, eX5_readNumber_9, eX5_readNumber_10, fx0, fx1, fx2, fx3, fx4, nl_int, nl_ref, nl_none, nl_ti, rz_nil, rz_int, rz_ref, rz_long, cf1, cf2, Option.toList_some, Option.toList_none, List.cons_append, List.nil_append, h5, if_true]
  refine aC.of (c_skip h1 hn h4 hp) ?_
  obtain ⟨g1, g2⟩ := sk_le (tx := σ 8) hp
  simp only [eX5_readNumber_13, eX5_readNumber_14, eX5_readNumber_17, eX5_readNumber_18, eX5_readNumber_19, eX5_readNumber_21, eX5_readNumber_22, fx0, fx1, fx2, fx3, fx4, nl_int, nl_ref, nl_none, nl_ti, rz_nil, rz_int, rz_ref, rz_long, cf1, cf2, Option.toList_some, Option.toList_none, List.cons_append, List.nil_append, su_at, su_ne, sr_eq, sr_ne, ne_eq, Nat.reduceEqDiff, not_false_eq_true, not_true_eq_false, if_true, if_false]
  have hfin : nP (σ 8) n p ≤ nE (σ 8) n p ∧ nE (σ 8) n p ≤ n := fgF_le (tx := σ 8) (n - sk (σ 8) n p) (sk (σ 8) n p) (by omega)
  have main : ∀ f q, q + f = n → sk (σ 8) n p ≤ q → fgF (σ 8) n f q = nE (σ 8) n p → aE l (d + 2) none 5 cX5_readNumber (some .int) (fun r' σ'' => r' = some (.int (nV (σ 8) n p)) ∧ σ'' = (if nC (σ 8) n p lo hi = 0 then su σ 1 4 (nI (nE (σ 8) n p)) else su (su (su σ 1 4 (nI (nE (σ 8) n p))) 1 5 (nC (σ 8) n p lo hi)) 1 2 (nI (nP (σ 8) n p)))) 24 [some (.ref 1), some (.int lo), some (.int hi), some (.int (nI (sk (σ 8) n p))), some (.int (cvF (σ 8) (sk (σ 8) n p) (q - sk (σ 8) n p))), some (.int (nI (q - sk (σ 8) n p)))] [] (su σ 1 4 (nI q)) := by
    have fin : aE l (d + 2) none 5 cX5_readNumber (some .int) (fun r' σ'' => r' = some (.int (nV (σ 8) n p)) ∧ σ'' = (if nC (σ 8) n p lo hi = 0 then su σ 1 4 (nI (nE (σ 8) n p)) else su (su (su σ 1 4 (nI (nE (σ 8) n p))) 1 5 (nC (σ 8) n p lo hi)) 1 2 (nI (nP (σ 8) n p)))) 82 [some (.ref 1), some (.int lo), some (.int hi), some (.int (nI (sk (σ 8) n p))), some (.int (nV (σ 8) n p)), some (.int (nI (nK (σ 8) n p)))] [] (su σ 1 4 (nI (nE (σ 8) n p))) := by
      have hK : nK (σ 8) n p ≤ 220 := by unfold nK; omega
      have hC : ∀ c, nC (σ 8) n p lo hi = c → ¬ c = 0 → aE l (d + 2) none 5 cX5_readNumber (some .int) (fun r' σ'' => r' = some (.int (nV (σ 8) n p)) ∧ σ'' = (if nC (σ 8) n p lo hi = 0 then su σ 1 4 (nI (nE (σ 8) n p)) else su (su (su σ 1 4 (nI (nE (σ 8) n p))) 1 5 (nC (σ 8) n p lo hi)) 1 2 (nI (nP (σ 8) n p)))) 120 [some (.ref 1), some (.int lo), some (.int hi), some (.int (nI (sk (σ 8) n p))), some (.int (nV (σ 8) n p)), some (.int (nI (nK (σ 8) n p)))] [] (su (su (su σ 1 4 (nI (nE (σ 8) n p))) 1 5 c) 1 2 (nI (sk (σ 8) n p))) := by
        intro c hc hc0
        rw [hc, if_neg hc0]
        simp only [eX5_readNumber_120, eX5_readNumber_122, fx0, fx1, fx2, fx3, fx4, nl_int, nl_ref, nl_none, nl_ti, rz_nil, rz_int, rz_ref, rz_long, cf1, cf2, Option.toList_some, Option.toList_none, List.cons_append, List.nil_append, true_and]
        rfl
      by_cases e0 : nK (σ 8) n p = 0
      · have e0' : nI (nK (σ 8) n p) = 0 := by rw [e0]; rfl
        simp only [eX5_readNumber_82, eX5_readNumber_84, eX5_readNumber_87, eX5_readNumber_88, eX5_readNumber_89, eX5_readNumber_90, fx0, fx1, fx2, fx3, fx4, nl_int, nl_ref, nl_none, nl_ti, rz_nil, rz_int, rz_ref, rz_long, cf1, cf2, Option.toList_some, Option.toList_none, List.cons_append, List.nil_append, e0', if_true]
        refine aC.of c_blame ?_
        simp only [eX5_readNumber_93, fx0, fx1, fx2, fx3, fx4, nl_int, nl_ref, nl_none, nl_ti, rz_nil, rz_int, rz_ref, rz_long, cf1, cf2, Option.toList_some, Option.toList_none, List.cons_append, List.nil_append]
        have h9 := hC 1 (if_pos e0) (by decide)
        rw [e0'] at h9
        exact h9
      · have e0' : ¬ nI (nK (σ 8) n p) = 0 := nI_ne0 (by omega) (by omega)
        have h2 : 3 < nK (σ 8) n p ∨ nV (σ 8) n p < lo ∨ hi < nV (σ 8) n p → aE l (d + 2) none 5 cX5_readNumber (some .int) (fun r' σ'' => r' = some (.int (nV (σ 8) n p)) ∧ σ'' = (if nC (σ 8) n p lo hi = 0 then su σ 1 4 (nI (nE (σ 8) n p)) else su (su (su σ 1 4 (nI (nE (σ 8) n p))) 1 5 (nC (σ 8) n p lo hi)) 1 2 (nI (nP (σ 8) n p)))) 114 [some (.ref 1), some (.int lo), some (.int hi), some (.int (nI (sk (σ 8) n p))), some (.int (nV (σ 8) n p)), some (.int (nI (nK (σ 8) n p)))] [] (su σ 1 4 (nI (nE (σ 8) n p))) := by
          intro hb
          simp only [eX5_readNumber_114, eX5_readNumber_115, eX5_readNumber_116, eX5_readNumber_117, fx0, fx1, fx2, fx3, fx4, nl_int, nl_ref, nl_none, nl_ti, rz_nil, rz_int, rz_ref, rz_long, cf1, cf2, Option.toList_some, Option.toList_none, List.cons_append, List.nil_append]
          refine aC.of c_blame ?_
          exact hC 2 (by unfold nC; rw [if_neg e0, if_pos hb]) (by decide)
        by_cases e1 : 3 < nK (σ 8) n p
        · have e1' : (3 : Int32) < nI (nK (σ 8) n p) := by rw [show (3 : Int32) = nI 3 from rfl, nilt (by omega) (by omega)]; exact e1
          simp only [eX5_readNumber_82, eX5_readNumber_84, eX5_readNumber_96, eX5_readNumber_98, eX5_readNumber_99, fx0, fx1, fx2, fx3, fx4, nl_int, nl_ref, nl_none, nl_ti, rz_nil, rz_int, rz_ref, rz_long, cf1, cf2, Option.toList_some, Option.toList_none, List.cons_append, List.nil_append, e0', e1', if_true, if_false]
          exact h2 (Or.inl e1)
        · have e1' : ¬ (3 : Int32) < nI (nK (σ 8) n p) := by rw [show (3 : Int32) = nI 3 from rfl, nilt (by omega) (by omega)]; exact e1
          by_cases e2 : nV (σ 8) n p < lo
          · simp only [eX5_readNumber_82, eX5_readNumber_84, eX5_readNumber_96, eX5_readNumber_98, eX5_readNumber_99, eX5_readNumber_102, eX5_readNumber_104, eX5_readNumber_105, fx0, fx1, fx2, fx3, fx4, nl_int, nl_ref, nl_none, nl_ti, rz_nil, rz_int, rz_ref, rz_long, cf1, cf2, Option.toList_some, Option.toList_none, List.cons_append, List.nil_append, e0', e1', e2, if_true, if_false]
            exact h2 (Or.inr (Or.inl e2))
          · by_cases e3 : nV (σ 8) n p ≤ hi
            · have hc0 : nC (σ 8) n p lo hi = 0 := by
                unfold nC
                rw [if_neg e0, if_neg]
                rintro (c | c | c)
                · exact e1 c
                · exact e2 c
                · exact Int32.not_lt.mpr e3 c
              simp only [eX5_readNumber_82, eX5_readNumber_84, eX5_readNumber_96, eX5_readNumber_98, eX5_readNumber_99, eX5_readNumber_102, eX5_readNumber_104, eX5_readNumber_105, eX5_readNumber_108, eX5_readNumber_110, eX5_readNumber_111, eX5_readNumber_120, eX5_readNumber_122, fx0, fx1, fx2, fx3, fx4, nl_int, nl_ref, nl_none, nl_ti, rz_nil, rz_int, rz_ref, rz_long, cf1, cf2, Option.toList_some, Option.toList_none, List.cons_append, List.nil_append, e0', e1', e2, e3, if_true, if_false, hc0, true_or, or_true, true_and, and_true, and_self]
            · simp only [eX5_readNumber_82, eX5_readNumber_84, eX5_readNumber_96, eX5_readNumber_98, eX5_readNumber_99, eX5_readNumber_102, eX5_readNumber_104, eX5_readNumber_105, eX5_readNumber_108, eX5_readNumber_110, eX5_readNumber_111, fx0, fx1, fx2, fx3, fx4, nl_int, nl_ref, nl_none, nl_ti, rz_nil, rz_int, rz_ref, rz_long, cf1, cf2, Option.toList_some, Option.toList_none, List.cons_append, List.nil_append, e0', e1', e2, e3, if_true, if_false]
              exact h2 (Or.inr (Or.inr (Int32.not_le.mp e3)))
    have stop : ∀ q, q = nE (σ 8) n p → cvF (σ 8) (sk (σ 8) n p) (q - sk (σ 8) n p) = nV (σ 8) n p ∧ nI (q - sk (σ 8) n p) = nI (nK (σ 8) n p) := fun q hq => by rw [hq]; exact ⟨rfl, rfl⟩
    intro f
    induction f with
    | zero =>
      intro q hq hsq hf
      have hqE : q = nE (σ 8) n p := hf
      obtain ⟨w1, w2⟩ := stop q hqE
      rw [w1, w2]
      have e1 : nI n ≤ nI q := (nile (by omega) (by omega)).mpr (by omega)
      rw [eX5_readNumber_24]
      simp only [eX5_readNumber_25, eX5_readNumber_28, eX5_readNumber_29, eX5_readNumber_32, fx0, fx1, fx2, fx3, fx4, nl_int, nl_ref, nl_none, nl_ti, rz_nil, rz_int, rz_ref, rz_long, cf1, cf2, Option.toList_some, Option.toList_none, List.cons_append, List.nil_append, su_at, su_ne, sr_eq, sr_ne, ne_eq, Nat.reduceEqDiff, not_false_eq_true, not_true_eq_false, if_true, if_false, h1, e1, if_true]
      rw [hqE]
      exact fin
    | succ f ih =>
      intro q hq hsq hf
      rw [fgF_s] at hf
      have e1 : ¬ nI n ≤ nI q := by rw [nile (by omega) (by omega)]; omega
      rw [eX5_readNumber_24]
      simp only [eX5_readNumber_25, eX5_readNumber_28, eX5_readNumber_29, eX5_readNumber_32, eX5_readNumber_35, eX5_readNumber_36, fx0, fx1, fx2, fx3, fx4, nl_int, nl_ref, nl_none, nl_ti, rz_nil, rz_int, rz_ref, rz_long, cf1, cf2, Option.toList_some, Option.toList_none, List.cons_append, List.nil_append, su_at, su_ne, sr_eq, sr_ne, ne_eq, Nat.reduceEqDiff, not_false_eq_true, not_true_eq_false, if_true, if_false, h1, e1, if_false]
      refine aC.of (c_letterHere (n := n) (p := q) (by simp only [su_at, su_ne, sr_eq, sr_ne, ne_eq, Nat.reduceEqDiff, not_false_eq_true, not_true_eq_false, if_true, if_false]; exact h1) hn (by simp only [su_at, su_ne, sr_eq, sr_ne, ne_eq, Nat.reduceEqDiff, not_false_eq_true, not_true_eq_false, if_true, if_false]) (by omega)) ?_
      simp only [eX5_readNumber_39, fx0, fx1, fx2, fx3, fx4, nl_int, nl_ref, nl_none, nl_ti, rz_nil, rz_int, rz_ref, rz_long, cf1, cf2, Option.toList_some, Option.toList_none, List.cons_append, List.nil_append, su_at, su_ne, sr_eq, sr_ne, ne_eq, Nat.reduceEqDiff, not_false_eq_true, not_true_eq_false, if_true, if_false]
      rw [show hrF (σ 8) n q = σ 8 q from if_pos (by omega)]
      refine aC.of c_isFigure ?_
      by_cases e2 : fgB (σ 8 q) = true
      · rw [if_pos ⟨by omega, e2⟩] at hf
        have key := ih (q + 1) (by omega) (by omega) hf
        have hk : q + 1 - sk (σ 8) n p = q - sk (σ 8) n p + 1 := by omega
        have hpk : sk (σ 8) n p + (q - sk (σ 8) n p) = q := by omega
        rw [hk, cvF_s, hpk] at key
        by_cases e3 : q - sk (σ 8) n p < 3
        · have e3' : ¬ (3 : Int32) < nI (q - sk (σ 8) n p + 1) := by rw [show (3 : Int32) = nI 3 from rfl, nilt (by omega) (by omega)]; omega
          rw [if_pos e3] at key
          simp only [eX5_readNumber_42, eX5_readNumber_45, eX5_readNumber_48, eX5_readNumber_50, eX5_readNumber_51, eX5_readNumber_54, eX5_readNumber_56, eX5_readNumber_58, eX5_readNumber_59, eX5_readNumber_60, fx0, fx1, fx2, fx3, fx4, nl_int, nl_ref, nl_none, nl_ti, rz_nil, rz_int, rz_ref, rz_long, cf1, cf2, Option.toList_some, Option.toList_none, List.cons_append, List.nil_append, e2, if_true, show ¬ (1 : Int32) = 0 by decide, if_false, nI_1, e3']
          refine aC.of (c_letterHere (n := n) (p := q) (by simp only [su_at, su_ne, sr_eq, sr_ne, ne_eq, Nat.reduceEqDiff, not_false_eq_true, not_true_eq_false, if_true, if_false]; exact h1) hn (by simp only [su_at, su_ne, sr_eq, sr_ne, ne_eq, Nat.reduceEqDiff, not_false_eq_true, not_true_eq_false, if_true, if_false]) (by omega)) ?_
          simp only [su_at, su_ne, sr_eq, sr_ne, ne_eq, Nat.reduceEqDiff, not_false_eq_true, not_true_eq_false, if_true, if_false]
          rw [show hrF (σ 8) n q = σ 8 q from if_pos (by omega)]
          simp only [eX5_readNumber_63, eX5_readNumber_64, eX5_readNumber_66, eX5_readNumber_67, eX5_readNumber_69, eX5_readNumber_70, eX5_readNumber_71, eX5_readNumber_74, eX5_readNumber_75, eX5_readNumber_76, eX5_readNumber_79, fx0, fx1, fx2, fx3, fx4, nl_int, nl_ref, nl_none, nl_ti, rz_nil, rz_int, rz_ref, rz_long, cf1, cf2, Option.toList_some, Option.toList_none, List.cons_append, List.nil_append, su_at, su_ne, sr_eq, sr_ne, ne_eq, Nat.reduceEqDiff, not_false_eq_true, not_true_eq_false, if_true, if_false, su_su, nI_1]
          exact key
        · have e3' : (3 : Int32) < nI (q - sk (σ 8) n p + 1) := by rw [show (3 : Int32) = nI 3 from rfl, nilt (by omega) (by omega)]; omega
          rw [if_neg e3] at key
          simp only [eX5_readNumber_42, eX5_readNumber_45, eX5_readNumber_48, eX5_readNumber_50, eX5_readNumber_51, eX5_readNumber_69, eX5_readNumber_70, eX5_readNumber_71, eX5_readNumber_74, eX5_readNumber_75, eX5_readNumber_76, eX5_readNumber_79, fx0, fx1, fx2, fx3, fx4, nl_int, nl_ref, nl_none, nl_ti, rz_nil, rz_int, rz_ref, rz_long, cf1, cf2, Option.toList_some, Option.toList_none, List.cons_append, List.nil_append, su_at, su_ne, sr_eq, sr_ne, ne_eq, Nat.reduceEqDiff, not_false_eq_true, not_true_eq_false, if_true, if_false, e2, if_true, show ¬ (1 : Int32) = 0 by decide, if_false, nI_1, e3', su_su]
          exact key
      · rw [if_neg (fun c => e2 c.2)] at hf
        obtain ⟨w1, w2⟩ := stop q hf
        rw [w1, w2]
        simp only [eX5_readNumber_42, fx0, fx1, fx2, fx3, fx4, nl_int, nl_ref, nl_none, nl_ti, rz_nil, rz_int, rz_ref, rz_long, cf1, cf2, Option.toList_some, Option.toList_none, List.cons_append, List.nil_append, e2, if_true, if_false]
        rw [hf]
        exact fin
  have := main (n - sk (σ 8) n p) (sk (σ 8) n p) (by omega) (Nat.le_refl _) rfl
  rw [Nat.sub_self] at this
  exact this
theorem inB_fg (x : Int32) : inB x.toInt64 48 57 = if fgB x = true then 1 else 0 := by
  unfold inB fgB
  have h1 : (x.toInt64 < 48) = (x < 48) := by
    rw [show (48 : Int64) = (48 : Int32).toInt64 from by decide]
    exact propext Int32.toInt64_lt
  have h2 : ((57 : Int64) < x.toInt64) = (57 < x) := by
    rw [show (57 : Int64) = (57 : Int32).toInt64 from by decide]
    exact propext Int32.toInt64_lt
  by_cases e1 : x < 48
  · rw [if_pos (by rw [h1]; exact e1), decide_eq_false (Int32.not_le.mpr e1), Bool.false_and, if_neg Bool.false_ne_true]
  · rw [if_neg (by rw [h1]; exact e1), decide_eq_true (Int32.not_lt.mp e1), Bool.true_and]
    by_cases e2 : 57 < x
    · rw [if_pos (by rw [h2]; exact e2), decide_eq_false (Int32.not_le.mpr e2), if_neg Bool.false_ne_true]
    · rw [if_neg (by rw [h2]; exact e2), decide_eq_true (Int32.not_lt.mp e2), if_pos rfl]
theorem inB_32 (x lo hi : Int32) : inB x.toInt64 lo.toInt64 hi.toInt64 = if x < lo ∨ hi < x then 0 else 1 := by
  unfold inB
  have h1 : (x.toInt64 < lo.toInt64) = (x < lo) := propext Int32.toInt64_lt
  have h2 : (hi.toInt64 < x.toInt64) = (hi < x) := propext Int32.toInt64_lt
  by_cases e1 : x < lo
  · rw [if_pos (by rw [h1]; exact e1), if_pos (Or.inl e1)]
  · rw [if_neg (by rw [h1]; exact e1)]
    by_cases e2 : hi < x
    · rw [if_pos (by rw [h2]; exact e2), if_pos (Or.inr e2)]
    · rw [if_neg (by rw [h2]; exact e2), if_neg (fun c => c.elim e1 e2)]
theorem fgB_of {x : Int32} (h : fgB x = true) : ∃ a, a ≤ 9 ∧ x = nI (48 + a) := by
  unfold fgB at h
  simp only [Bool.and_eq_true, decide_eq_true_eq] at h
  have h0 : ¬ x < 0 := fun e => absurd (Int32.lt_of_le_of_lt h.1 e) (by decide)
  obtain ⟨j, hj, rfl⟩ := nI_of h0
  have g1 := h.1
  have g2 := h.2
  rw [show (48 : Int32) = nI 48 from rfl, nI_leI (by omega) hj] at g1
  rw [show (57 : Int32) = nI 57 from rfl, nI_leI hj (by omega)] at g2
  exact ⟨j - 48, by omega, by rw [show 48 + (j - 48) = j by omega]⟩
theorem cv_mv {tx : Nat → Int32} {p : Nat} : ∀ k, k ≤ 3 → (∀ j, j < k → fgB (tx (p + j)) = true) → ∃ V, V < 10 ^ k ∧ cvF tx p k = nI V ∧ mvF tx p k = nI V := by
  intro k
  induction k with
  | zero => exact fun _ _ => ⟨0, by decide, rfl, rfl⟩
  | succ k ih =>
    intro hk hf
    obtain ⟨V, h1, h2, h3⟩ := ih (by omega) (fun j hj => hf j (by omega))
    obtain ⟨a, ha, e⟩ := fgB_of (hf k (by omega))
    have hV : V < 1000 := Nat.lt_of_lt_of_le h1 (Nat.le_trans (Nat.pow_le_pow_right (by decide) (show k ≤ 2 by omega)) (by decide))
    have hs : ∀ X : Nat, nI X + nI (48 + a) - 48 = nI (X + a) := fun X => by
      rw [nI_add, show (48 : Int32) = nI 48 from rfl, nI_sb (by omega), show X + (48 + a) - 48 = X + a by omega]
    refine ⟨V * 10 + a, by rw [Nat.pow_succ]; omega, ?_, ?_⟩
    · rw [cvF_s, if_pos (by omega), h2, e, show (10 : Int32) = nI 10 from rfl, nI_ml, hs]
    · rw [mvF_s, h3, if_pos (by rw [show (10000 : Int32) = nI 10000 from rfl, nile (by omega) (by omega)]; omega), e, show (10 : Int32) = nI 10 from rfl, nI_ml, Nat.mul_comm 10 V, hs]
theorem fgF_all {tx : Nat → Int32} {n : Nat} : ∀ f q, ∀ j, q ≤ j → j < fgF tx n f q → fgB (tx j) = true := by
  intro f
  induction f with
  | zero => intro q j h1 h2; exact absurd h2 (by show ¬ j < q; omega)
  | succ f ih =>
    intro q j h1 h2
    rw [fgF_s] at h2
    by_cases e : q < n ∧ fgB (tx q) = true
    · rw [if_pos e] at h2
      by_cases e2 : j = q
      · rw [e2]; exact e.2
      · exact ih (q + 1) j (by omega) h2
    · rw [if_neg e] at h2
      omega
end NU
