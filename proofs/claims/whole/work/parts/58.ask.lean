/-! askNext -/
theorem cnt_split (P S : Nat → Bool) : ∀ n, cnt (fun k => P k && S k) n + cnt (fun k => P k && !S k) n = cnt P n := by
  intro n
  induction n with
  | zero => rfl
  | succ n ih =>
    rw [cnt_s, cnt_s, cnt_s]
    cases hP : P n <;> cases hS : S n <;> simp <;> omega
def ba (pt : Nat → Nat) (c0 : Nat) : Nat → Int32 × Nat
  | 0 => (-1, c0)
  | s + 1 => if pt s < (ba pt c0 s).2 then (nI s, pt s) else ba pt c0 s
theorem ba_s (pt : Nat → Nat) (c0 s : Nat) : ba pt c0 (s + 1) = if pt s < (ba pt c0 s).2 then (nI s, pt s) else ba pt c0 s := by rw [ba]
theorem ba_le {pt : Nat → Nat} {c0 : Nat} : ∀ s, (ba pt c0 s).2 ≤ c0 := by
  intro s
  induction s with
  | zero => exact Nat.le_refl _
  | succ s ih =>
    rw [ba_s]
    by_cases e : pt s < (ba pt c0 s).2
    · rw [if_pos e]; show pt s ≤ c0; omega
    · rw [if_neg e]; exact ih
theorem ba_congr {pt pt' : Nat → Nat} {c0 : Nat} : ∀ s, (∀ q, q < s → pt q = pt' q) → ba pt c0 s = ba pt' c0 s := by
  intro s
  induction s with
  | zero => exact fun _ => rfl
  | succ s ih => intro h; rw [ba_s, ba_s, ih (fun q hq => h q (by omega)), h s (by omega)]
theorem sU01 (g set nods : Int32) : sU g set nods = 0 ∨ sU g set nods = 1 := by
  unfold sU
  by_cases e : (if g &&& set = 0 then set else g &&& set) &&& (nods ^^^ (-1)) = 0
  · rw [if_pos e]; exact Or.inr rfl
  · rw [if_neg e]; exact Or.inl rfl
def sB (g : Int32) (m k : Nat) : Bool := !decide (sU g (nI m) (nI k) = 0)
def gpt (P : Nat → Bool) (g : Int32) (m N : Nat) : Nat := max (cnt (fun k => P k && sB g m k) N) (cnt (fun k => P k && !sB g m k) N)
section AS
variable {l : Launch} {d : Nat} {σ : aW}
theorem c_greater {n s m q : Nat} {g u : Nat → Int32} (h : SC σ n s g u) (hm : m < 64) (hq : q < s) : Sem l (d + 4) 43 [.ref 103, .ref 9, .int (nI q), .int (nI m)] σ (some (.int (nI (gpt (fun k => ft g u (nI m) (nI k) n) (σ 14 q) m (m + 1))))) σ := by
  refine Sem_of rfl (Nat.le_of_ble_eq_true rfl) ?_
  show aE l (d + 3) none 6 cX6_greaterPart (some .int) _ 0 [some (.ref 103), some (.ref 9), some (.int (nI q)), some (.int (nI m)), none, none, none] [] σ
  simp only [eX6_greaterPart_0, eX6_greaterPart_1, eX6_greaterPart_3, eX6_greaterPart_4, eX6_greaterPart_6, eX6_greaterPart_7, fx0, fx1, fx2, fx3, fx4, nl_int, nl_ref, nl_none, nl_ti, rz_nil, rz_int, rz_ref, rz_long, cf1, cf2, Option.toList_some, Option.toList_none, List.cons_append, List.nil_append]
  have hP : ∃ P : Nat → Bool, P = fun k => ft g u (nI m) (nI k) n := ⟨_, rfl⟩
  obtain ⟨P, hP⟩ := hP
  rw [← hP]
  have main : ∀ j k, k + j = m + 1 → aE l (d + 3) none 6 cX6_greaterPart (some .int) (fun r' σ'' => r' = some (.int (nI (gpt P (σ 14 q) m (m + 1)))) ∧ σ'' = σ) 9 [some (.ref 103), some (.ref 9), some (.int (nI q)), some (.int (nI m)), some (.int (nI (cnt (fun k => P k && sB (σ 14 q) m k) k))), some (.int (nI (cnt (fun k => P k && !sB (σ 14 q) m k) k))), some (.int (nI k))] [] σ := by
    intro j
    induction j with
    | zero =>
      intro k hkn
      have hkn : k = m + 1 := by omega
      subst hkn
      have e1 : nI m < nI (m + 1) := (nilt (by omega) (by omega)).mpr (by omega)
      have c1 := cnt_le (fun k => P k && sB (σ 14 q) m k) (m + 1)
      have c2 := cnt_le (fun k => P k && !sB (σ 14 q) m k) (m + 1)
      simp only [eX6_greaterPart_9, eX6_greaterPart_11, eX6_greaterPart_12, eX6_greaterPart_62, eX6_greaterPart_64, eX6_greaterPart_66, eX6_greaterPart_69, fx0, fx1, fx2, fx3, fx4, nl_int, nl_ref, nl_none, nl_ti, rz_nil, rz_int, rz_ref, rz_long, cf1, cf2, Option.toList_some, Option.toList_none, List.cons_append, List.nil_append, e1, if_true, and_true]
      unfold gpt
      by_cases e : cnt (fun k => P k && sB (σ 14 q) m k) (m + 1) < cnt (fun k => P k && !sB (σ 14 q) m k) (m + 1)
      · rw [if_pos ((nilt (by omega) (by omega)).mpr e), Nat.max_eq_right (by omega)]
      · rw [if_neg (by rw [nilt (by omega) (by omega)]; exact e), Nat.max_eq_left (by omega)]
    | succ j ih =>
      intro k hkn
      have e1 : ¬ nI m < nI k := by rw [nilt (by omega) (by omega)]; omega
      have e2 : ¬ (64 : Int32) ≤ nI k := by rw [show (64 : Int32) = nI 64 from rfl, nile (by omega) (by omega)]; omega
      have key := ih (k + 1) (by omega)
      rw [cnt_s _ k, cnt_s _ k] at key
      rw [eX6_greaterPart_9]
      simp only [eX6_greaterPart_11, eX6_greaterPart_12, eX6_greaterPart_15, eX6_greaterPart_17, eX6_greaterPart_19, eX6_greaterPart_22, eX6_greaterPart_23, eX6_greaterPart_24, eX6_greaterPart_25, eX6_greaterPart_27, fx0, fx1, fx2, fx3, fx4, nl_int, nl_ref, nl_none, nl_ti, rz_nil, rz_int, rz_ref, rz_long, cf1, cf2, Option.toList_some, Option.toList_none, List.cons_append, List.nil_append, e1, e2, if_false]
      refine aC.of (c_fits h) ?_
      rw [show ft g u (nI m) (nI k) n = P k from by rw [hP]]
      cases hPk : P k with
      | true =>
        simp only [hPk, Bool.true_and] at key
        simp only [eX6_greaterPart_30, eX6_greaterPart_33, eX6_greaterPart_36, eX6_greaterPart_37, eX6_greaterPart_38, eX6_greaterPart_39, eX6_greaterPart_41, fx0, fx1, fx2, fx3, fx4, nl_int, nl_ref, nl_none, nl_ti, rz_nil, rz_int, rz_ref, rz_long, cf1, cf2, Option.toList_some, Option.toList_none, List.cons_append, List.nil_append, if_true, show ¬ (1 : Int32) = 0 by decide, if_false]
        refine aC.of (c_sits h.2.2.1 h.2.2.2.1 hq rfl) ?_
        by_cases e : sU (σ 14 q) (nI m) (nI k) = 0
        · have eb : sB (σ 14 q) m k = false := by unfold sB; rw [decide_eq_true e]; rfl
          simp only [eb, Bool.not_false, if_true, Bool.false_eq_true, if_false] at key
          simp only [eX6_greaterPart_44, eX6_greaterPart_53, eX6_greaterPart_56, eX6_greaterPart_59, fx0, fx1, fx2, fx3, fx4, nl_int, nl_ref, nl_none, nl_ti, rz_nil, rz_int, rz_ref, rz_long, cf1, cf2, Option.toList_some, Option.toList_none, List.cons_append, List.nil_append, e, if_true, nI_1]
          exact key
        · have eb : sB (σ 14 q) m k = true := by unfold sB; rw [decide_eq_false e]; rfl
          simp only [eb, Bool.not_true, if_true, Bool.false_eq_true, if_false] at key
          simp only [eX6_greaterPart_44, eX6_greaterPart_47, eX6_greaterPart_50, eX6_greaterPart_56, eX6_greaterPart_59, fx0, fx1, fx2, fx3, fx4, nl_int, nl_ref, nl_none, nl_ti, rz_nil, rz_int, rz_ref, rz_long, cf1, cf2, Option.toList_some, Option.toList_none, List.cons_append, List.nil_append, e, if_false, nI_1]
          exact key
      | false =>
        simp only [hPk, Bool.false_and, Bool.false_eq_true, if_false] at key
        simp only [eX6_greaterPart_30, eX6_greaterPart_33, eX6_greaterPart_56, eX6_greaterPart_59, fx0, fx1, fx2, fx3, fx4, nl_int, nl_ref, nl_none, nl_ti, rz_nil, rz_int, rz_ref, rz_long, cf1, cf2, Option.toList_some, Option.toList_none, List.cons_append, List.nil_append, if_true, if_false, nI_1, Bool.false_eq_true]
        exact key
  exact main (m + 1) 0 (by omega)
theorem c_best {n s m : Nat} {g u : Nat → Int32} (h : SC σ n s g u) (hm : m < 64) : Sem l (d + 5) 42 [.ref 103, .ref 9, .int (nI m)] σ (some (.int (ba (fun q => gpt (fun k => ft g u (nI m) (nI k) n) (σ 14 q) m (m + 1)) (cnt (fun k => ft g u (nI m) (nI k) n) (m + 1)) s).1)) σ := by
  refine Sem_of rfl (Nat.le_of_ble_eq_true rfl) ?_
  show aE l (d + 4) none 6 cX6_bestToAsk (some .int) _ 0 [some (.ref 103), some (.ref 9), some (.int (nI m)), none, none, none, none] [] σ
  simp only [eX6_bestToAsk_0, eX6_bestToAsk_1, eX6_bestToAsk_2, eX6_bestToAsk_3, eX6_bestToAsk_4, eX6_bestToAsk_5, fx0, fx1, fx2, fx3, fx4, nl_int, nl_ref, nl_none, nl_ti, rz_nil, rz_int, rz_ref, rz_long, cf1, cf2, Option.toList_some, Option.toList_none, List.cons_append, List.nil_append]
  refine aC.of (c_count h hm) ?_
  simp only [eX6_bestToAsk_8, eX6_bestToAsk_10, eX6_bestToAsk_11, fx0, fx1, fx2, fx3, fx4, nl_int, nl_ref, nl_none, nl_ti, rz_nil, rz_int, rz_ref, rz_long, cf1, cf2, Option.toList_some, Option.toList_none, List.cons_append, List.nil_append]
  have hPt : ∃ pt : Nat → Nat, pt = fun q => gpt (fun k => ft g u (nI m) (nI k) n) (σ 14 q) m (m + 1) := ⟨_, rfl⟩
  obtain ⟨pt, hPt⟩ := hPt
  have hpt : ∀ q, pt q ≤ m + 1 := fun q => by
    rw [hPt]
    exact Nat.max_le.mpr ⟨cnt_le _ _, cnt_le _ _⟩
  have hc0 := cnt_le (fun k => ft g u (nI m) (nI k) n) (m + 1)
  rw [← hPt]
  generalize hc : cnt (fun k => ft g u (nI m) (nI k) n) (m + 1) = c0 at hc0 ⊢
  have hs := h.2.2.1
  have hs8 := h.2.2.2.1
  have main : ∀ j k t, k + j = s → aE l (d + 4) none 6 cX6_bestToAsk (some .int) (fun r' σ'' => r' = some (.int (ba pt c0 s).1) ∧ σ'' = σ) 13 [some (.ref 103), some (.ref 9), some (.int (nI m)), some (.int (ba pt c0 k).1), some (.int (nI (ba pt c0 k).2)), some (.int (nI k)), ti t] [] σ := by
    intro j
    induction j with
    | zero =>
      intro k t hkn
      have hkn : k = s := by omega
      subst hkn
      have e1 : nI k ≤ nI k := (nile (by omega) (by omega)).mpr (Nat.le_refl _)
      simp only [eX6_bestToAsk_13, eX6_bestToAsk_15, eX6_bestToAsk_16, eX6_bestToAsk_19, eX6_bestToAsk_59, eX6_bestToAsk_60, fx0, fx1, fx2, fx3, fx4, nl_int, nl_ref, nl_none, nl_ti, rz_nil, rz_int, rz_ref, rz_long, cf1, cf2, Option.toList_some, Option.toList_none, List.cons_append, List.nil_append, hs, e1, if_true, true_or, or_true, true_and, and_true, and_self]
    | succ j ih =>
      intro k t hkn
      have e1 : ¬ nI s ≤ nI k := by rw [nile (by omega) (by omega)]; omega
      have e2 : ¬ (8 : Int32) ≤ nI k := by rw [show (8 : Int32) = nI 8 from rfl, nile (by omega) (by omega)]; omega
      have key := ih (k + 1) (some (nI (pt k))) (by omega)
      rw [ba_s pt c0 k] at key
      have hb := ba_le (pt := pt) (c0 := c0) k
      have hpk := hpt k
      rw [eX6_bestToAsk_13]
      simp only [eX6_bestToAsk_15, eX6_bestToAsk_16, eX6_bestToAsk_19, eX6_bestToAsk_22, eX6_bestToAsk_24, eX6_bestToAsk_26, eX6_bestToAsk_29, eX6_bestToAsk_30, eX6_bestToAsk_31, eX6_bestToAsk_33, eX6_bestToAsk_34, fx0, fx1, fx2, fx3, fx4, nl_int, nl_ref, nl_none, nl_ti, rz_nil, rz_int, rz_ref, rz_long, cf1, cf2, Option.toList_some, Option.toList_none, List.cons_append, List.nil_append, hs, e1, e2, if_false]
      refine aC.of (c_greater h hm (by omega)) ?_
      rw [show gpt (fun k => ft g u (nI m) (nI k) n) (σ 14 k) m (m + 1) = pt k from by rw [hPt]]
      by_cases e : pt k < (ba pt c0 k).2
      · have e3 : ¬ nI (ba pt c0 k).2 ≤ nI (pt k) := by rw [nile (by omega) (by omega)]; omega
        rw [if_pos e] at key
        simp only [eX6_bestToAsk_37, eX6_bestToAsk_39, eX6_bestToAsk_41, eX6_bestToAsk_43, eX6_bestToAsk_46, eX6_bestToAsk_48, eX6_bestToAsk_50, eX6_bestToAsk_52, eX6_bestToAsk_53, eX6_bestToAsk_56, fx0, fx1, fx2, fx3, fx4, nl_int, nl_ref, nl_none, nl_ti, rz_nil, rz_int, rz_ref, rz_long, cf1, cf2, Option.toList_some, Option.toList_none, List.cons_append, List.nil_append, e3, if_false, nI_1]
        exact key
      · have e3 : nI (ba pt c0 k).2 ≤ nI (pt k) := (nile (by omega) (by omega)).mpr (by omega)
        rw [if_neg e] at key
        simp only [eX6_bestToAsk_37, eX6_bestToAsk_39, eX6_bestToAsk_41, eX6_bestToAsk_43, eX6_bestToAsk_53, eX6_bestToAsk_56, fx0, fx1, fx2, fx3, fx4, nl_int, nl_ref, nl_none, nl_ti, rz_nil, rz_int, rz_ref, rz_long, cf1, cf2, Option.toList_some, Option.toList_none, List.cons_append, List.nil_append, e3, if_true, nI_1]
        exact key
  exact main s 0 none (by omega)
theorem ask_m1 {Q : Option Value → aW → Prop} {n w m : Nat} {g u : Nat → Int32} {l4 l5 l6 l7 : Option Value} (h : SM σ n g u) (hw : σ 109 4 = nI w) (hw6 : w ≤ 6)
    (hk : aE l (d + 2) none 10 cX10_askNext (some .int) Q 48 [some (.ref 109), some (.int (nI m)), some (.int (nI (cnt (fun k => ft g u (nI m) (nI k) n) (2 ^ w)))), some (.int (nI (2 ^ w))), l4, l5, l6, l7] [] σ) : ∀ j k, k + j = 2 ^ w →
    aE l (d + 2) none 10 cX10_askNext (some .int) Q 15 [some (.ref 109), some (.int (nI m)), some (.int (nI (cnt (fun k => ft g u (nI m) (nI k) n) k))), some (.int (nI k)), l4, l5, l6, l7] [] σ := by
  have hp : 2 ^ w ≤ 2 ^ 6 := Nat.pow_le_pow_right (by decide) hw6
  intro j
  induction j with
  | zero =>
    intro k hkn
    have hkn : k = 2 ^ w := by omega
    rw [hkn]
    have e1 : nI (2 ^ w) ≤ nI (2 ^ w) := (nile (by omega) (by omega)).mpr (Nat.le_refl _)
    rw [eX10_askNext_15]
    simp only [eX10_askNext_16, eX10_askNext_17, eX10_askNext_18, eX10_askNext_21, eX10_askNext_22, fx0, fx1, fx2, fx3, fx4, nl_int, nl_ref, nl_none, nl_ti, rz_nil, rz_int, rz_ref, rz_long, cf1, cf2, Option.toList_some, Option.toList_none, List.cons_append, List.nil_append, hw, sh6 w hw6, e1, if_true]
    exact hk
  | succ j ih =>
    intro k hkn
    have e1 : ¬ nI (2 ^ w) ≤ nI k := by rw [nile (by omega) (by omega)]; omega
    have key := ih (k + 1) (by omega)
    rw [cnt_s _ k] at key
    rw [eX10_askNext_15]
    simp only [eX10_askNext_16, eX10_askNext_17, eX10_askNext_18, eX10_askNext_21, eX10_askNext_22, eX10_askNext_25, eX10_askNext_26, eX10_askNext_27, eX10_askNext_28, eX10_askNext_29, fx0, fx1, fx2, fx3, fx4, nl_int, nl_ref, nl_none, nl_ti, rz_nil, rz_int, rz_ref, rz_long, cf1, cf2, Option.toList_some, Option.toList_none, List.cons_append, List.nil_append, hw, sh6 w hw6, e1, if_false]
    refine aC.of (m_couldNod h) ?_
    by_cases e : ft g u (nI m) (nI k) n = true
    · rw [if_pos e] at key
      simp only [eX10_askNext_32, eX10_askNext_35, eX10_askNext_36, eX10_askNext_39, eX10_askNext_40, eX10_askNext_41, eX10_askNext_42, eX10_askNext_45, fx0, fx1, fx2, fx3, fx4, nl_int, nl_ref, nl_none, nl_ti, rz_nil, rz_int, rz_ref, rz_long, cf1, cf2, Option.toList_some, Option.toList_none, List.cons_append, List.nil_append, e, if_true, show ¬ (1 : Int32) = 0 by decide, if_false, nI_1]
      exact key
    · rw [if_neg e] at key
      simp only [eX10_askNext_32, eX10_askNext_35, eX10_askNext_36, eX10_askNext_39, eX10_askNext_40, eX10_askNext_41, eX10_askNext_42, eX10_askNext_45, fx0, fx1, fx2, fx3, fx4, nl_int, nl_ref, nl_none, nl_ti, rz_nil, rz_int, rz_ref, rz_long, cf1, cf2, Option.toList_some, Option.toList_none, List.cons_append, List.nil_append, e, if_true, if_false, nI_1, Int32.add_zero]
      exact key
theorem ask_m2 {Q : Option Value → aW → Prop} {n w m q : Nat} {g u : Nat → Int32} {l2 l3 l4 : Option Value} (h : SM σ n g u) (hw : σ 109 4 = nI w) (hw6 : w ≤ 6) (hq : q < 8)
    (hk : aE l (d + 2) none 10 cX10_askNext (some .int) Q 124 [some (.ref 109), some (.int (nI m)), l2, l3, l4, some (.int (nI q)), some (.int (nI (cnt (fun k => ft g u (nI m) (nI k) n && sB (σ 113 q) m k) (2 ^ w)))), some (.int (nI (2 ^ w)))] [] σ) : ∀ j k, k + j = 2 ^ w →
    aE l (d + 2) none 10 cX10_askNext (some .int) Q 71 [some (.ref 109), some (.int (nI m)), l2, l3, l4, some (.int (nI q)), some (.int (nI (cnt (fun k => ft g u (nI m) (nI k) n && sB (σ 113 q) m k) k))), some (.int (nI k))] [] σ := by
  have hp : 2 ^ w ≤ 2 ^ 6 := Nat.pow_le_pow_right (by decide) hw6
  have hin : vp_in (nI q) 8 := vin (by omega) (by omega)
  have hcl : (nI q).toNatClampNeg = q := nic (by omega)
  intro j
  induction j with
  | zero =>
    intro k hkn
    have hkn : k = 2 ^ w := by omega
    rw [hkn]
    have e1 : nI (2 ^ w) ≤ nI (2 ^ w) := (nile (by omega) (by omega)).mpr (Nat.le_refl _)
    rw [eX10_askNext_71]
    simp only [eX10_askNext_73, eX10_askNext_74, eX10_askNext_75, eX10_askNext_78, eX10_askNext_79, fx0, fx1, fx2, fx3, fx4, nl_int, nl_ref, nl_none, nl_ti, rz_nil, rz_int, rz_ref, rz_long, cf1, cf2, Option.toList_some, Option.toList_none, List.cons_append, List.nil_append, hw, sh6 w hw6, e1, if_true]
    exact hk
  | succ j ih =>
    intro k hkn
    have e1 : ¬ nI (2 ^ w) ≤ nI k := by rw [nile (by omega) (by omega)]; omega
    have key := ih (k + 1) (by omega)
    rw [cnt_s _ k] at key
    rw [eX10_askNext_71]
    simp only [eX10_askNext_73, eX10_askNext_74, eX10_askNext_75, eX10_askNext_78, eX10_askNext_79, eX10_askNext_82, eX10_askNext_84, eX10_askNext_85, eX10_askNext_86, eX10_askNext_88, fx0, fx1, fx2, fx3, fx4, nl_int, nl_ref, nl_none, nl_ti, rz_nil, rz_int, rz_ref, rz_long, cf1, cf2, Option.toList_some, Option.toList_none, List.cons_append, List.nil_append, hw, sh6 w hw6, e1, if_false]
    refine aC.of (m_couldNod h) ?_
    by_cases e : ft g u (nI m) (nI k) n = true
    · simp only [e, Bool.true_and] at key
      simp only [eX10_askNext_91, eX10_askNext_94, eX10_askNext_95, eX10_askNext_98, eX10_askNext_100, eX10_askNext_101, eX10_askNext_102, eX10_askNext_104, fx0, fx1, fx2, fx3, fx4, nl_int, nl_ref, nl_none, nl_ti, rz_nil, rz_int, rz_ref, rz_long, cf1, cf2, Option.toList_some, Option.toList_none, List.cons_append, List.nil_append, e, if_true, show ¬ (1 : Int32) = 0 by decide, if_false, hin, hcl, true_and]
      refine aC.of m_sitsUp ?_
      by_cases e3 : sU (σ 113 q) (nI m) (nI k) = 0
      · have eb : sB (σ 113 q) m k = false := by unfold sB; rw [decide_eq_true e3]; rfl
        simp only [eb, Bool.false_eq_true, if_false] at key
        simp only [eX10_askNext_107, eX10_askNext_114, eX10_askNext_115, eX10_askNext_116, eX10_askNext_118, eX10_askNext_121, fx0, fx1, fx2, fx3, fx4, nl_int, nl_ref, nl_none, nl_ti, rz_nil, rz_int, rz_ref, rz_long, cf1, cf2, Option.toList_some, Option.toList_none, List.cons_append, List.nil_append, e3, if_true, nI_1, Int32.add_zero]
        exact key
      · have eb : sB (σ 113 q) m k = true := by unfold sB; rw [decide_eq_false e3]; rfl
        simp only [eb, if_true] at key
        simp only [eX10_askNext_107, eX10_askNext_110, eX10_askNext_111, eX10_askNext_114, eX10_askNext_115, eX10_askNext_116, eX10_askNext_118, eX10_askNext_121, fx0, fx1, fx2, fx3, fx4, nl_int, nl_ref, nl_none, nl_ti, rz_nil, rz_int, rz_ref, rz_long, cf1, cf2, Option.toList_some, Option.toList_none, List.cons_append, List.nil_append, e3, if_false, nI_1]
        exact key
    · rw [Bool.not_eq_true] at e
      simp only [e, Bool.false_and, Bool.false_eq_true, if_false] at key
      simp only [eX10_askNext_91, eX10_askNext_114, eX10_askNext_115, eX10_askNext_116, eX10_askNext_118, eX10_askNext_121, fx0, fx1, fx2, fx3, fx4, nl_int, nl_ref, nl_none, nl_ti, rz_nil, rz_int, rz_ref, rz_long, cf1, cf2, Option.toList_some, Option.toList_none, List.cons_append, List.nil_append, e, if_true, if_false, nI_1, Int32.add_zero, Bool.false_eq_true]
      exact key
theorem ask_m {Q : Option Value → aW → Prop} {n w m s : Nat} {g u : Nat → Int32} (h : SM σ n g u) (hw : σ 109 4 = nI w) (hw6 : w ≤ 6) (hs : σ 109 8 = nI s) (hs8 : s ≤ 8) {P : Nat → Bool} (hP : P = fun k => ft g u (nI m) (nI k) n) {pt : Nat → Nat} (hpt : pt = fun q => gpt P (σ 113 q) m (2 ^ w))
    (hk : Q (some (.int (ba pt (cnt P (2 ^ w)) s).1)) σ) : ∀ j k t1 t2, k + j = s →
    aE l (d + 2) none 10 cX10_askNext (some .int) Q 56 [some (.ref 109), some (.int (nI m)), some (.int (nI (cnt P (2 ^ w)))), some (.int (ba pt (cnt P (2 ^ w)) k).1), some (.int (nI (ba pt (cnt P (2 ^ w)) k).2)), some (.int (nI k)), ti t1, ti t2] [] σ := by
  have hp : 2 ^ w ≤ 2 ^ 6 := Nat.pow_le_pow_right (by decide) hw6
  have hc0 := cnt_le P (2 ^ w)
  intro j
  induction j with
  | zero =>
    intro k t1 t2 hkn
    have hkn : k = s := by omega
    subst hkn
    have e1 : nI k ≤ nI k := (nile (by omega) (by omega)).mpr (Nat.le_refl _)
    simp only [eX10_askNext_56, eX10_askNext_58, eX10_askNext_59, eX10_askNext_62, eX10_askNext_164, eX10_askNext_165, fx0, fx1, fx2, fx3, fx4, nl_int, nl_ref, nl_none, nl_ti, rz_nil, rz_int, rz_ref, rz_long, cf1, cf2, Option.toList_some, Option.toList_none, List.cons_append, List.nil_append, hs, e1, if_true]
    exact hk
  | succ j ih =>
    intro k t1 t2 hkn
    have e1 : ¬ nI s ≤ nI k := by rw [nile (by omega) (by omega)]; omega
    rw [eX10_askNext_56]
    simp only [eX10_askNext_58, eX10_askNext_59, eX10_askNext_62, eX10_askNext_65, eX10_askNext_66, eX10_askNext_68, eX10_askNext_69, fx0, fx1, fx2, fx3, fx4, nl_int, nl_ref, nl_none, nl_ti, rz_nil, rz_int, rz_ref, rz_long, cf1, cf2, Option.toList_some, Option.toList_none, List.cons_append, List.nil_append, hs, e1, if_false]
    refine ask_m2 (q := k) h hw hw6 (by omega) ?_ (2 ^ w) 0 (by omega)
    have c1 := cnt_le (fun k' => P k' && sB (σ 113 k) m k') (2 ^ w)
    have c2 := cnt_le (fun k' => P k' && !sB (σ 113 k) m k') (2 ^ w)
    have c3 := cnt_split P (sB (σ 113 k) m) (2 ^ w)
    have c4 : pt k = max (cnt (fun k' => P k' && sB (σ 113 k) m k') (2 ^ w)) (cnt (fun k' => P k' && !sB (σ 113 k) m k') (2 ^ w)) := by rw [hpt]; rfl
    rw [show (fun k' => ft g u (nI m) (nI k') n && sB (σ 113 k) m k') = fun k' => P k' && sB (σ 113 k) m k' from by rw [hP]]
    generalize cnt (fun k' => P k' && sB (σ 113 k) m k') (2 ^ w) = A at c1 c3 c4 ⊢
    generalize cnt (fun k' => P k' && !sB (σ 113 k) m k') (2 ^ w) = C at c2 c3 c4 ⊢
    have key := ih (k + 1) (some (nI A)) (some (nI (pt k))) (by omega)
    rw [ba_s pt _ k] at key
    have hb := ba_le (pt := pt) (c0 := cnt P (2 ^ w)) k
    have hsub : nI (cnt P (2 ^ w)) - nI A = nI C := by
      rw [← c3, ← nI_add, Int32.add_comm, Int32.add_sub_cancel]
    simp only [eX10_askNext_124, eX10_askNext_126, eX10_askNext_127, eX10_askNext_129, eX10_askNext_130, fx0, fx1, fx2, fx3, fx4, nl_int, nl_ref, nl_none, nl_ti, rz_nil, rz_int, rz_ref, rz_long, cf1, cf2, Option.toList_some, Option.toList_none, List.cons_append, List.nil_append, hsub]
    refine aC.of m_atLeast ?_
    have hmx : mx (nI C) (nI A) = nI (pt k) := by
      unfold mx
      rw [c4]
      by_cases e : C < A
      · rw [if_pos ((nilt (by omega) (by omega)).mpr e), Nat.max_eq_left (by omega)]
      · rw [if_neg (by rw [nilt (by omega) (by omega)]; exact e), Nat.max_eq_right (by omega)]
    have hpk : pt k ≤ 64 := by rw [c4]; exact Nat.max_le.mpr ⟨by omega, by omega⟩
    rw [hmx]
    have hmn : mn (nI (ba pt (cnt P (2 ^ w)) k).2) (nI (pt k)) = nI (if pt k < (ba pt (cnt P (2 ^ w)) k).2 then pt k else (ba pt (cnt P (2 ^ w)) k).2) := by
      unfold mn
      by_cases e : pt k < (ba pt (cnt P (2 ^ w)) k).2
      · rw [if_pos ((nilt (by omega) (by omega)).mpr e), if_pos e]
      · rw [if_neg (by rw [nilt (by omega) (by omega)]; exact e), if_neg e]
    by_cases e : pt k < (ba pt (cnt P (2 ^ w)) k).2
    · have e3 : ¬ nI (ba pt (cnt P (2 ^ w)) k).2 ≤ nI (pt k) := by rw [nile (by omega) (by omega)]; omega
      rw [if_pos e] at key hmn
      simp only [eX10_askNext_133, eX10_askNext_135, eX10_askNext_137, eX10_askNext_139, eX10_askNext_142, eX10_askNext_144, eX10_askNext_147, eX10_askNext_148, eX10_askNext_149, eX10_askNext_151, eX10_askNext_153, fx0, fx1, fx2, fx3, fx4, nl_int, nl_ref, nl_none, nl_ti, rz_nil, rz_int, rz_ref, rz_long, cf1, cf2, Option.toList_some, Option.toList_none, List.cons_append, List.nil_append, e3, if_false]
      refine aC.of m_atMost ?_
      rw [hmn]
      simp only [eX10_askNext_156, eX10_askNext_158, eX10_askNext_161, fx0, fx1, fx2, fx3, fx4, nl_int, nl_ref, nl_none, nl_ti, rz_nil, rz_int, rz_ref, rz_long, cf1, cf2, Option.toList_some, Option.toList_none, List.cons_append, List.nil_append, nI_1]
      exact key
    · have e3 : nI (ba pt (cnt P (2 ^ w)) k).2 ≤ nI (pt k) := (nile (by omega) (by omega)).mpr (by omega)
      rw [if_neg e] at key hmn
      simp only [eX10_askNext_133, eX10_askNext_135, eX10_askNext_137, eX10_askNext_139, eX10_askNext_142, eX10_askNext_144, eX10_askNext_147, eX10_askNext_148, eX10_askNext_149, eX10_askNext_151, eX10_askNext_153, fx0, fx1, fx2, fx3, fx4, nl_int, nl_ref, nl_none, nl_ti, rz_nil, rz_int, rz_ref, rz_long, cf1, cf2, Option.toList_some, Option.toList_none, List.cons_append, List.nil_append, e3, if_true]
      refine aC.of m_atMost ?_
      rw [hmn]
      simp only [eX10_askNext_156, eX10_askNext_158, eX10_askNext_161, fx0, fx1, fx2, fx3, fx4, nl_int, nl_ref, nl_none, nl_ti, rz_nil, rz_int, rz_ref, rz_long, cf1, cf2, Option.toList_some, Option.toList_none, List.cons_append, List.nil_append, nI_1]
      exact key
theorem op_askNext (hI : Inv σ) (x : Int32) : Pair l (d + 30) 82 146 [.int x] σ := by
  have hI0 := hI
  obtain ⟨h, w, s, hK, ⟨hS, hR⟩, hH, hIm, hD, hE, hB, hT⟩ := hI
  have hw6 : w ≤ 6 := hK.1.2.2
  have k1 : σ 9 4 = nI w := hK.1.1
  have k2 : σ 109 4 = nI w := hK.1.2.1
  have k8 : σ 109 8 = nI s := hK.2.1.2.1
  have hs8 : s ≤ 8 := hK.2.1.2.2
  have hp : 2 ^ w ≤ 2 ^ 6 := Nat.pow_le_pow_right (by decide) hw6
  refine aC_of rfl (Nat.le_of_ble_eq_true rfl) ?_
  show aE l (d + 29) none 9 cX9_askNext (some .int) _ 0 [some (.ref 0), some (.int x)] [] σ
  simp only [eX9_askNext_0, eX9_askNext_1, eX9_askNext_4, eX9_askNext_5, fx0, fx1, fx2, fx3, fx4, nl_int, nl_ref, nl_none, nl_ti, rz_nil, rz_int, rz_ref, rz_long, cf1, cf2, Option.toList_some, Option.toList_none, List.cons_append, List.nil_append]
  refine aC.of (c_hasAll (Or.inr rfl)) ?_
  rw [k1]
  have hm : ∀ (P : Option Value → aW → Prop) (v : Int32), inB x.toInt64 0 ((1 : Int32) <<< (nI w &&& 31) - 1).toInt64 = v → aE l (d + 29) none 10 cX10_askNext (some .int) P 5 [some (.ref 109), some (.int x), none, none, none, none, none, none] [.int v] σ → aC l (d + 30) 146 [.ref 109, .int x] σ P := by
    intro P v hv hP
    refine aC_of rfl (Nat.le_of_ble_eq_true rfl) ?_
    show aE l (d + 29) none 10 cX10_askNext (some .int) _ 0 [some (.ref 109), some (.int x), none, none, none, none, none, none] [] σ
    simp only [eX10_askNext_0, eX10_askNext_1, eX10_askNext_2, fx0, fx1, fx2, fx3, fx4, nl_int, nl_ref, nl_none, nl_ti, rz_nil, rz_int, rz_ref, rz_long, cf1, cf2, Option.toList_some, Option.toList_none, List.cons_append, List.nil_append]
    refine aC.of m_isSet ?_
    rw [k2, hv]
    exact hP
  rcases setc x hw6 with ⟨m, hm2, rfl⟩ | ⟨z1, z2⟩
  · obtain ⟨o1, o2⟩ := setc1 hw6 hm2
    rw [if_pos o1]
    obtain ⟨n, hc, hmm⟩ := seen_both hK hE
    generalize hg : (fun j => σ 113 (σ 126 j).toNatClampNeg) = g at hc hmm
    have hN : m + 1 + (2 ^ w - (m + 1)) = 2 ^ w := by omega
    have hover : ∀ k, m + 1 ≤ k → k < m + 1 + (2 ^ w - (m + 1)) → ft g (σ 127) (nI m) (nI k) n = false := fun k h1 h2 => ft_over (by omega) (by omega) n
    have ect := cnt_tail (P := fun k => ft g (σ 127) (nI m) (nI k) n) (2 ^ w - (m + 1)) hover
    rw [hN] at ect
    simp only [eX9_askNext_8, eX9_askNext_11, eX9_askNext_13, eX9_askNext_14, eX9_askNext_15, eX9_askNext_18, eX9_askNext_19, eX9_askNext_22, eX9_askNext_23, fx0, fx1, fx2, fx3, fx4, nl_int, nl_ref, nl_none, nl_ti, rz_nil, rz_int, rz_ref, rz_long, cf1, cf2, Option.toList_some, Option.toList_none, List.cons_append, List.nil_append, show ¬ (1 : Int32) = 0 by decide, if_false]
    refine aC.of (c_best hc (by omega)) ?_
    simp only [eX9_askNext_26, fx0, fx1, fx2, fx3, fx4, nl_int, nl_ref, nl_none, nl_ti, rz_nil, rz_int, rz_ref, rz_long, cf1, cf2, Option.toList_some, Option.toList_none, List.cons_append, List.nil_append]
    refine hm _ 1 o2 ?_
    simp only [eX10_askNext_5, eX10_askNext_8, eX10_askNext_10, eX10_askNext_11, eX10_askNext_12, eX10_askNext_13, eX10_askNext_14, fx0, fx1, fx2, fx3, fx4, nl_int, nl_ref, nl_none, nl_ti, rz_nil, rz_int, rz_ref, rz_long, cf1, cf2, Option.toList_some, Option.toList_none, List.cons_append, List.nil_append, show ¬ (1 : Int32) = 0 by decide, if_false]
    refine ask_m1 (d := d + 27) hmm k2 hw6 ?_ (2 ^ w) 0 (by omega)
    simp only [eX10_askNext_48, eX10_askNext_49, eX10_askNext_50, eX10_askNext_51, eX10_askNext_53, eX10_askNext_54, fx0, fx1, fx2, fx3, fx4, nl_int, nl_ref, nl_none, nl_ti, rz_nil, rz_int, rz_ref, rz_long, cf1, cf2, Option.toList_some, Option.toList_none, List.cons_append, List.nil_append]
    refine ask_m (d := d + 27) hmm k2 hw6 k8 hs8 rfl rfl ?_ s 0 none none (by omega)
    refine ⟨⟨_, rfl, ?_⟩, hI0⟩
    rw [ect, ba_congr (pt' := fun q => gpt (fun k => ft g (σ 127) (nI m) (nI k) n) (σ 14 q) m (m + 1)) s (fun q hq => ?_)]
    show gpt _ _ m (2 ^ w) = gpt _ _ m (m + 1)
    rw [(hK.2.2.2.2.2 q hq).1]
    unfold gpt
    rw [← hN, cnt_tail (2 ^ w - (m + 1)) (fun k h1 h2 => by show (ft g (σ 127) (nI m) (nI k) n && _) = false; rw [hover k h1 h2, Bool.false_and]), cnt_tail (2 ^ w - (m + 1)) (fun k h1 h2 => by show (ft g (σ 127) (nI m) (nI k) n && _) = false; rw [hover k h1 h2, Bool.false_and])]
  · rw [if_neg z1]
    simp only [eX9_askNext_8, eX9_askNext_11, eX9_askNext_13, fx0, fx1, fx2, fx3, fx4, nl_int, nl_ref, nl_none, nl_ti, rz_nil, rz_int, rz_ref, rz_long, cf1, cf2, Option.toList_some, Option.toList_none, List.cons_append, List.nil_append, if_true]
    refine hm _ 0 z2 ?_
    simp only [eX10_askNext_5, eX10_askNext_8, eX10_askNext_10, fx0, fx1, fx2, fx3, fx4, nl_int, nl_ref, nl_none, nl_ti, rz_nil, rz_int, rz_ref, rz_long, cf1, cf2, Option.toList_some, Option.toList_none, List.cons_append, List.nil_append, if_true]
    exact ⟨⟨_, rfl, rfl⟩, hI0⟩
end AS
