/-! the text: skipping, letters, figures; both sides -/
def skF (tx : Nat → Int32) (n : Nat) : Nat → Nat → Nat
  | 0, p => p
  | f + 1, p => if p < n ∧ tx p = 32 then skF tx n f (p + 1) else p
theorem skF_s (tx : Nat → Int32) (n f p : Nat) : skF tx n (f + 1) p = if p < n ∧ tx p = 32 then skF tx n f (p + 1) else p := by rw [skF]
def sk (tx : Nat → Int32) (n p : Nat) : Nat := skF tx n (n - p) p
theorem skF_le {tx : Nat → Int32} {n : Nat} : ∀ f p, p + f = n → p ≤ skF tx n f p ∧ skF tx n f p ≤ n := by
  intro f
  induction f with
  | zero => intro p hp; exact ⟨Nat.le_refl _, by show p ≤ n; omega⟩
  | succ f ih =>
    intro p hp
    rw [skF_s]
    split
    · have := ih (p + 1) (by omega)
      omega
    · omega
theorem sk_le {tx : Nat → Int32} {n p : Nat} (hp : p ≤ n) : p ≤ sk tx n p ∧ sk tx n p ≤ n := skF_le (n - p) p (by omega)
theorem skF_congr {tx tx' : Nat → Int32} {n : Nat} (h : ∀ j, j < n → tx j = tx' j) : ∀ f p, skF tx n f p = skF tx' n f p := by
  intro f
  induction f with
  | zero => exact fun _ => rfl
  | succ f ih =>
    intro p
    rw [skF_s, skF_s, ih]
    by_cases e : p < n
    · rw [h p e]
    · rw [if_neg (fun c => e c.1), if_neg (fun c => e c.1)]
def hrF (tx : Nat → Int32) (n p : Nat) : Int32 := if p < n then tx p else -1
def fgB (x : Int32) : Bool := decide (48 ≤ x) && decide (x ≤ 57)
/-- the place behind the figures -/
def fgF (tx : Nat → Int32) (n : Nat) : Nat → Nat → Nat
  | 0, k => k
  | f + 1, k => if k < n ∧ fgB (tx k) = true then fgF tx n f (k + 1) else k
theorem fgF_s (tx : Nat → Int32) (n f k : Nat) : fgF tx n (f + 1) k = if k < n ∧ fgB (tx k) = true then fgF tx n f (k + 1) else k := by rw [fgF]
theorem fgF_le {tx : Nat → Int32} {n : Nat} : ∀ f p, p + f = n → p ≤ fgF tx n f p ∧ fgF tx n f p ≤ n := by
  intro f
  induction f with
  | zero => intro p hp; exact ⟨Nat.le_refl _, by show p ≤ n; omega⟩
  | succ f ih =>
    intro p hp
    rw [fgF_s]
    split
    · have := ih (p + 1) (by omega)
      omega
    · omega
/-- the class's value of the first k figures from p on, at most three counted -/
def cvF (tx : Nat → Int32) (p : Nat) : Nat → Int32
  | 0 => 0
  | k + 1 => if k < 3 then cvF tx p k * 10 + tx (p + k) - 48 else cvF tx p k
theorem cvF_s (tx : Nat → Int32) (p k : Nat) : cvF tx p (k + 1) = if k < 3 then cvF tx p k * 10 + tx (p + k) - 48 else cvF tx p k := by rw [cvF]
def mvF (tx : Nat → Int32) (p : Nat) : Nat → Int32
  | 0 => 0
  | k + 1 => if mvF tx p k ≤ 10000 then 10 * mvF tx p k + tx (p + k) - 48 else mvF tx p k
theorem mvF_s (tx : Nat → Int32) (p k : Nat) : mvF tx p (k + 1) = if mvF tx p k ≤ 10000 then 10 * mvF tx p k + tx (p + k) - 48 else mvF tx p k := by rw [mvF]
section TX
variable {l : Launch} {d : Nat} {σ : aW}
theorem c_letterHere {n p : Nat} (h1 : σ 1 1 = nI n) (hn : n ≤ 220) (h4 : σ 1 4 = nI p) (hp : p ≤ n) : Sem l (d + 1) 33 [.ref 1] σ (some (.int (hrF (σ 8) n p))) σ := by
  refine Sem_of rfl (Nat.le_of_ble_eq_true rfl) ?_
  show aE l d none 5 cX5_letterHere (some .int) _ 0 [some (.ref 1)] [] σ
  have h0 : ¬ nI p < 0 := nI_pos (by omega)
  unfold hrF
  by_cases e : p < n
  · have e1 : ¬ nI n ≤ nI p := by rw [nile (by omega) (by omega)]; omega
    have e2 : nI p < 220 := by rw [show (220 : Int32) = nI 220 from rfl, nilt (by omega) (by omega)]; omega
    have hin : vp_in (nI p) 220 := vin (by omega) (by omega)
    have hcl : (nI p).toNatClampNeg = p := nic (by omega)
    simp only [eX5_letterHere_0, eX5_letterHere_1, eX5_letterHere_4, eX5_letterHere_7, eX5_letterHere_8, eX5_letterHere_11, eX5_letterHere_12, eX5_letterHere_15, eX5_letterHere_18, eX5_letterHere_19, eX5_letterHere_22, eX5_letterHere_25, eX5_letterHere_28, eX5_letterHere_29, eX5_letterHere_30, eX5_letterHere_31, eX5_letterHere_34, eX5_letterHere_35, eX5_letterHere_38, eX5_letterHere_39, fx0, fx1, fx2, fx3, fx4, nl_int, nl_ref, nl_none, nl_ti, rz_nil, rz_int, rz_ref, rz_long, cf1, cf2, Option.toList_some, Option.toList_none, List.cons_append, List.nil_append, h1, h4, h0, e1, e2, if_true, if_false, hin, hcl, e, true_or, or_true, true_and, and_true, and_self]
  · have e1 : nI n ≤ nI p := (nile (by omega) (by omega)).mpr (by omega)
    simp only [eX5_letterHere_0, eX5_letterHere_1, eX5_letterHere_4, eX5_letterHere_7, eX5_letterHere_8, eX5_letterHere_11, eX5_letterHere_12, eX5_letterHere_15, eX5_letterHere_18, eX5_letterHere_19, eX5_letterHere_22, eX5_letterHere_25, eX5_letterHere_28, eX5_letterHere_29, eX5_letterHere_30, eX5_letterHere_31, eX5_letterHere_34, eX5_letterHere_35, eX5_letterHere_38, eX5_letterHere_39, fx0, fx1, fx2, fx3, fx4, nl_int, nl_ref, nl_none, nl_ti, rz_nil, rz_int, rz_ref, rz_long, cf1, cf2, Option.toList_some, Option.toList_none, List.cons_append, List.nil_append, h1, h4, h0, e1, if_true, if_false, e, true_or, or_true, true_and, and_true, and_self]
theorem c_isFigure {x : Int32} : Sem l (d + 1) 35 [.int x] σ (some (.int (if fgB x = true then 1 else 0))) σ := by
  refine Sem_of rfl (Nat.le_of_ble_eq_true rfl) ?_
  show aE l d none 5 cX5_isFigure (some .boolean) _ 0 [some (.int x)] [] σ
  unfold fgB
  by_cases e1 : x < 48
  · have e1' : ¬ 48 ≤ x := Int32.not_le.mpr e1
    simp only [eX5_isFigure_0, eX5_isFigure_1, eX5_isFigure_3, eX5_isFigure_6, eX5_isFigure_7, eX5_isFigure_9, eX5_isFigure_12, eX5_isFigure_13, eX5_isFigure_16, eX5_isFigure_17, fx0, fx1, fx2, fx3, fx4, nl_int, nl_ref, nl_none, nl_ti, rz_nil, rz_int, rz_ref, rz_long, cf1, cf2, Option.toList_some, Option.toList_none, List.cons_append, List.nil_append, e1, e1', if_true, decide_false, Bool.false_and, Bool.false_eq_true, if_false, vp_nar, true_or, or_true, true_and, and_true, and_self]
  · have e1' : 48 ≤ x := Int32.not_lt.mp e1
    by_cases e2 : 57 < x
    · have e2' : ¬ x ≤ 57 := Int32.not_le.mpr e2
      simp only [eX5_isFigure_0, eX5_isFigure_1, eX5_isFigure_3, eX5_isFigure_6, eX5_isFigure_7, eX5_isFigure_9, eX5_isFigure_12, eX5_isFigure_13, eX5_isFigure_16, eX5_isFigure_17, fx0, fx1, fx2, fx3, fx4, nl_int, nl_ref, nl_none, nl_ti, rz_nil, rz_int, rz_ref, rz_long, cf1, cf2, Option.toList_some, Option.toList_none, List.cons_append, List.nil_append, e1, e1', e2, e2', if_true, decide_false, decide_true, Bool.and_false, Bool.false_eq_true, if_false, vp_nar, true_or, or_true, true_and, and_true, and_self]
    · have e2' : x ≤ 57 := Int32.not_lt.mp e2
      simp only [eX5_isFigure_0, eX5_isFigure_1, eX5_isFigure_3, eX5_isFigure_6, eX5_isFigure_7, eX5_isFigure_9, eX5_isFigure_12, eX5_isFigure_13, eX5_isFigure_16, eX5_isFigure_17, fx0, fx1, fx2, fx3, fx4, nl_int, nl_ref, nl_none, nl_ti, rz_nil, rz_int, rz_ref, rz_long, cf1, cf2, Option.toList_some, Option.toList_none, List.cons_append, List.nil_append, e1, e1', e2, e2', if_true, decide_true, Bool.and_self, if_false, vp_nar, true_or, or_true, true_and, and_true, and_self]
theorem c_blame {k v : Int32} : Sem l (d + 1) 34 [.ref 1, .int k, .int v] σ none (su (su σ 1 5 k) 1 2 v) := by
  refine Sem_of rfl (Nat.le_of_ble_eq_true rfl) ?_
  show aE l d none 5 cX5_blame none _ 0 [some (.ref 1), some (.int k), some (.int v)] [] σ
  simp only [eX5_blame_0, eX5_blame_1, eX5_blame_2, eX5_blame_5, eX5_blame_6, eX5_blame_7, eX5_blame_10, fx0, fx1, fx2, fx3, fx4, nl_int, nl_ref, nl_none, nl_ti, rz_nil, rz_int, rz_ref, rz_long, cf1, cf2, Option.toList_some, Option.toList_none, List.cons_append, List.nil_append, true_or, or_true, true_and, and_true, and_self]
theorem su_su (σ : aW) (a k : Nat) (v w : Int32) : su (su σ a k v) a k w = su σ a k w := by
  funext b j
  rw [su_if, su_if, su_if]
  by_cases e : b = a ∧ j = k
  · rw [if_pos e, if_pos e]
  · rw [if_neg e, if_neg e, if_neg e]
theorem su_same {σ : aW} {a k : Nat} {v : Int32} (h : σ a k = v) : su σ a k v = σ := by
  funext b j
  rw [su_if]
  by_cases e : b = a ∧ j = k
  · rw [if_pos e, e.1, e.2, h]
  · rw [if_neg e]
theorem c_skip {n p : Nat} (h1 : σ 1 1 = nI n) (hn : n ≤ 220) (h4 : σ 1 4 = nI p) (hp : p ≤ n) : Sem l (d + 2) 32 [.ref 1] σ none (su σ 1 4 (nI (sk (σ 8) n p))) := by
  refine Sem_of rfl (Nat.le_of_ble_eq_true rfl) ?_
  show aE l (d + 1) none 5 cX5_skipBlanks none _ 0 [some (.ref 1)] [] σ
  have main : ∀ f q, q + f = n → ∀ Q : Option Value → aW → Prop, Q none (su σ 1 4 (nI (skF (σ 8) n f q))) → aE l (d + 1) none 5 cX5_skipBlanks none Q 0 [some (.ref 1)] [] (su σ 1 4 (nI q)) := by
    intro f
    induction f with
    | zero =>
      intro q hq Q hQ
      obtain rfl : q = n := by omega
      have e1 : nI q ≤ nI q := (nile (by omega) (by omega)).mpr (Nat.le_refl _)
      rw [eX5_skipBlanks_0]
      simp only [eX5_skipBlanks_1, eX5_skipBlanks_4, eX5_skipBlanks_5, eX5_skipBlanks_8, eX5_skipBlanks_33, fx0, fx1, fx2, fx3, fx4, nl_int, nl_ref, nl_none, nl_ti, rz_nil, rz_int, rz_ref, rz_long, cf1, cf2, Option.toList_some, Option.toList_none, List.cons_append, List.nil_append, su_at, su_ne, sr_eq, sr_ne, ne_eq, Nat.reduceEqDiff, not_false_eq_true, not_true_eq_false, if_true, if_false, h1, e1, if_true]
      exact hQ
    | succ f ih =>
      intro q hq Q hQ
      have e1 : ¬ nI n ≤ nI q := by rw [nile (by omega) (by omega)]; omega
      rw [skF_s] at hQ
      rw [eX5_skipBlanks_0]
      simp only [eX5_skipBlanks_1, eX5_skipBlanks_4, eX5_skipBlanks_5, eX5_skipBlanks_8, eX5_skipBlanks_11, eX5_skipBlanks_12, fx0, fx1, fx2, fx3, fx4, nl_int, nl_ref, nl_none, nl_ti, rz_nil, rz_int, rz_ref, rz_long, cf1, cf2, Option.toList_some, Option.toList_none, List.cons_append, List.nil_append, su_at, su_ne, sr_eq, sr_ne, ne_eq, Nat.reduceEqDiff, not_false_eq_true, not_true_eq_false, if_true, if_false, h1, e1, if_false]
      refine aC.of (c_letterHere (n := n) (p := q) (by simp only [su_at, su_ne, sr_eq, sr_ne, ne_eq, Nat.reduceEqDiff, not_false_eq_true, not_true_eq_false, if_true, if_false]; exact h1) hn (by simp only [su_at, su_ne, sr_eq, sr_ne, ne_eq, Nat.reduceEqDiff, not_false_eq_true, not_true_eq_false, if_true, if_false]) (by omega)) ?_
      simp only [su_at, su_ne, sr_eq, sr_ne, ne_eq, Nat.reduceEqDiff, not_false_eq_true, not_true_eq_false, if_true, if_false]
      rw [show hrF (σ 8) n q = σ 8 q from if_pos (by omega)]
      by_cases e2 : σ 8 q = 32
      · rw [if_pos ⟨by omega, e2⟩] at hQ
        simp only [eX5_skipBlanks_15, eX5_skipBlanks_17, eX5_skipBlanks_20, eX5_skipBlanks_21, eX5_skipBlanks_22, eX5_skipBlanks_25, eX5_skipBlanks_26, eX5_skipBlanks_27, eX5_skipBlanks_30, fx0, fx1, fx2, fx3, fx4, nl_int, nl_ref, nl_none, nl_ti, rz_nil, rz_int, rz_ref, rz_long, cf1, cf2, Option.toList_some, Option.toList_none, List.cons_append, List.nil_append, su_at, su_ne, sr_eq, sr_ne, ne_eq, Nat.reduceEqDiff, not_false_eq_true, not_true_eq_false, if_true, if_false, e2, if_true, su_su, nI_1]
        exact ih (q + 1) (by omega) Q hQ
      · rw [if_neg (fun c => e2 c.2)] at hQ
        simp only [eX5_skipBlanks_15, eX5_skipBlanks_17, eX5_skipBlanks_33, fx0, fx1, fx2, fx3, fx4, nl_int, nl_ref, nl_none, nl_ti, rz_nil, rz_int, rz_ref, rz_long, cf1, cf2, Option.toList_some, Option.toList_none, List.cons_append, List.nil_append, e2, if_false]
        exact hQ
  have := main (n - p) p (by omega) (fun r' σ'' => r' = none ∧ σ'' = su σ 1 4 (nI (sk (σ 8) n p))) ⟨rfl, rfl⟩
  rw [su_same h4] at this
  exact this
theorem m_fails {k v : Int32} : Sem l (d + 1) 101 [.ref 109, .int k, .int v] σ (some (.int k)) (su σ 109 14 v) := by
  refine Sem_of rfl (Nat.le_of_ble_eq_true rfl) ?_
  show aE l d none 10 cX10_fails (some .int) _ 0 [some (.ref 109), some (.int k), some (.int v)] [] σ
  simp only [eX10_fails_0, eX10_fails_1, eX10_fails_2, eX10_fails_5, eX10_fails_6, fx0, fx1, fx2, fx3, fx4, nl_int, nl_ref, nl_none, nl_ti, rz_nil, rz_int, rz_ref, rz_long, cf1, cf2, Option.toList_some, Option.toList_none, List.cons_append, List.nil_append, true_or, or_true, true_and, and_true, and_self]
theorem m_here {n p : Nat} (h1 : σ 109 13 = nI n) (hn : n ≤ 220) (h4 : σ 109 15 = nI p) (hp : p ≤ n) : Sem l (d + 1) 100 [.ref 109] σ (some (.int (hrF (σ 115) n (sk (σ 115) n p)))) (su σ 109 15 (nI (sk (σ 115) n p))) := by
  refine Sem_of rfl (Nat.le_of_ble_eq_true rfl) ?_
  show aE l d none 10 cX10_here (some .int) _ 0 [some (.ref 109)] [] σ
  have main : ∀ f q, q + f = n → ∀ Q : Option Value → aW → Prop, Q (some (.int (hrF (σ 115) n (skF (σ 115) n f q)))) (su σ 109 15 (nI (skF (σ 115) n f q))) → aE l d none 10 cX10_here (some .int) Q 0 [some (.ref 109)] [] (su σ 109 15 (nI q)) := by
    intro f
    induction f with
    | zero =>
      intro q hq Q hQ
      obtain rfl : q = n := by omega
      have e1 : nI q ≤ nI q := (nile (by omega) (by omega)).mpr (Nat.le_refl _)
      rw [show hrF (σ 115) q (skF (σ 115) q 0 q) = -1 from if_neg (Nat.lt_irrefl q)] at hQ
      rw [eX10_here_0]
      simp only [eX10_here_1, eX10_here_4, eX10_here_5, eX10_here_8, eX10_here_38, eX10_here_39, eX10_here_42, eX10_here_43, eX10_here_46, eX10_here_49, eX10_here_50, eX10_here_53, eX10_here_54, eX10_here_57, eX10_here_58, eX10_here_61, eX10_here_62, fx0, fx1, fx2, fx3, fx4, nl_int, nl_ref, nl_none, nl_ti, rz_nil, rz_int, rz_ref, rz_long, cf1, cf2, Option.toList_some, Option.toList_none, List.cons_append, List.nil_append, su_at, su_ne, sr_eq, sr_ne, ne_eq, Nat.reduceEqDiff, not_false_eq_true, not_true_eq_false, if_true, if_false, h1, e1, if_true]
      exact hQ
    | succ f ih =>
      intro q hq Q hQ
      have e1 : ¬ nI n ≤ nI q := by rw [nile (by omega) (by omega)]; omega
      have hin : vp_in (nI q) 220 := vin (by omega) (by omega)
      have hcl : (nI q).toNatClampNeg = q := nic (by omega)
      rw [skF_s] at hQ
      rw [eX10_here_0]
      by_cases e2 : σ 115 q = 32
      · rw [if_pos ⟨by omega, e2⟩] at hQ
        simp only [eX10_here_1, eX10_here_4, eX10_here_5, eX10_here_8, eX10_here_11, eX10_here_12, eX10_here_15, eX10_here_16, eX10_here_19, eX10_here_20, eX10_here_22, eX10_here_25, eX10_here_26, eX10_here_27, eX10_here_30, eX10_here_31, eX10_here_32, eX10_here_35, fx0, fx1, fx2, fx3, fx4, nl_int, nl_ref, nl_none, nl_ti, rz_nil, rz_int, rz_ref, rz_long, cf1, cf2, Option.toList_some, Option.toList_none, List.cons_append, List.nil_append, su_at, su_ne, sr_eq, sr_ne, ne_eq, Nat.reduceEqDiff, not_false_eq_true, not_true_eq_false, if_true, if_false, h1, e1, e2, if_true, if_false, hin, hcl, true_and, su_su, nI_1]
        exact ih (q + 1) (by omega) Q hQ
      · rw [if_neg (fun c => e2 c.2), show hrF (σ 115) n q = σ 115 q from if_pos (by omega)] at hQ
        simp only [eX10_here_1, eX10_here_4, eX10_here_5, eX10_here_8, eX10_here_11, eX10_here_12, eX10_here_15, eX10_here_16, eX10_here_19, eX10_here_20, eX10_here_22, eX10_here_38, eX10_here_39, eX10_here_42, eX10_here_43, eX10_here_46, eX10_here_49, eX10_here_50, eX10_here_53, eX10_here_54, eX10_here_57, eX10_here_58, eX10_here_61, eX10_here_62, fx0, fx1, fx2, fx3, fx4, nl_int, nl_ref, nl_none, nl_ti, rz_nil, rz_int, rz_ref, rz_long, cf1, cf2, Option.toList_some, Option.toList_none, List.cons_append, List.nil_append, su_at, su_ne, sr_eq, sr_ne, ne_eq, Nat.reduceEqDiff, not_false_eq_true, not_true_eq_false, if_true, if_false, h1, e1, e2, if_false, hin, hcl, true_and]
        exact hQ
  have := main (n - p) p (by omega) (fun r' σ'' => r' = some (.int (hrF (σ 115) n (sk (σ 115) n p))) ∧ σ'' = su σ 109 15 (nI (sk (σ 115) n p))) ⟨rfl, rfl⟩
  rw [su_same h4] at this
  exact this
end TX
