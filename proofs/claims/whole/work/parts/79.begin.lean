/-! taking the contract: the class -/
section BG
variable {l : Launch} {d : Nat} {σ : aW}
theorem c_copyC : Sem l (d + 1) 8 [.ref 9, .ref 2] σ none (sr (sr (sr (sr (sr (su (su (su (su (su (su σ 9 0 (σ 2 0)) 9 1 (σ 2 1)) 9 2 (σ 2 2)) 9 3 (σ 2 3)) 9 4 (σ 2 4)) 9 5 (σ 2 5)) 10 (pre 6 (σ 3) (σ 10))) 11 (pre 6 (σ 4) (σ 11))) 12 (pre 6 (σ 5) (σ 12))) 13 (pre 6 (σ 6) (σ 13))) 14 (pre 8 (σ 7) (σ 14))) := by
  refine Sem_of rfl (Nat.le_of_ble_eq_true rfl) ?_
  show aE l d none 2 cX2_copyFrom none _ 0 [some (.ref 9), some (.ref 2)] [] σ
  simp only [eX2_copyFrom_0, eX2_copyFrom_1, eX2_copyFrom_2, eX2_copyFrom_5, eX2_copyFrom_8, eX2_copyFrom_9, eX2_copyFrom_10, eX2_copyFrom_13, eX2_copyFrom_16, eX2_copyFrom_17, eX2_copyFrom_18, eX2_copyFrom_21, eX2_copyFrom_24, eX2_copyFrom_25, eX2_copyFrom_26, eX2_copyFrom_29, eX2_copyFrom_32, eX2_copyFrom_33, eX2_copyFrom_34, eX2_copyFrom_37, eX2_copyFrom_40, eX2_copyFrom_41, eX2_copyFrom_42, eX2_copyFrom_45, eX2_copyFrom_48, eX2_copyFrom_49, eX2_copyFrom_52, eX2_copyFrom_53, eX2_copyFrom_54, eX2_copyFrom_57, eX2_copyFrom_58, eX2_copyFrom_60, eX2_copyFrom_63, eX2_copyFrom_64, eX2_copyFrom_67, eX2_copyFrom_68, eX2_copyFrom_69, eX2_copyFrom_72, eX2_copyFrom_73, eX2_copyFrom_75, eX2_copyFrom_78, eX2_copyFrom_79, eX2_copyFrom_82, eX2_copyFrom_83, eX2_copyFrom_84, eX2_copyFrom_87, eX2_copyFrom_88, eX2_copyFrom_90, eX2_copyFrom_93, eX2_copyFrom_94, eX2_copyFrom_97, eX2_copyFrom_98, eX2_copyFrom_99, eX2_copyFrom_102, eX2_copyFrom_103, eX2_copyFrom_105, eX2_copyFrom_108, eX2_copyFrom_109, eX2_copyFrom_112, eX2_copyFrom_113, eX2_copyFrom_114, eX2_copyFrom_117, eX2_copyFrom_118, eX2_copyFrom_120, eX2_copyFrom_123, fx0, fx1, fx2, fx3, fx4, nl_int, nl_ref, nl_none, nl_ti, rz_nil, rz_int, rz_ref, rz_long, cf1, cf2, Option.toList_some, Option.toList_none, List.cons_append, List.nil_append, su_at, su_ne, sr_eq, sr_ne, ne_eq, Nat.reduceEqDiff, not_false_eq_true, not_true_eq_false, if_true, if_false, sy_sr, Nat.le_refl, true_or, or_true, true_and, and_true, and_self]
theorem c_begin : Sem l (d + 1) 44 [.ref 15, .ref 9] σ none (sr (sr (su (su (su (su (su (su (su σ 15 0 0) 15 1 0) 15 2 0) 15 3 0) 15 4 0) 15 5 0) 15 6 0) 16 (pre 6 (σ 10) (σ 16))) 17 (pre 6 (fun _ => 0) (σ 17))) := by
  refine Sem_of rfl (Nat.le_of_ble_eq_true rfl) ?_
  show aE l d none 7 cX7_begin none _ 0 [some (.ref 15), some (.ref 9), none] [] σ
  simp only [eX7_begin_0, eX7_begin_1, eX7_begin_2, eX7_begin_5, eX7_begin_6, eX7_begin_7, eX7_begin_10, eX7_begin_11, eX7_begin_12, eX7_begin_15, eX7_begin_16, eX7_begin_17, eX7_begin_20, eX7_begin_21, eX7_begin_22, eX7_begin_25, eX7_begin_26, eX7_begin_27, eX7_begin_30, eX7_begin_31, eX7_begin_32, eX7_begin_35, eX7_begin_36, fx0, fx1, fx2, fx3, fx4, nl_int, nl_ref, nl_none, nl_ti, rz_nil, rz_int, rz_ref, rz_long, cf1, cf2, Option.toList_some, Option.toList_none, List.cons_append, List.nil_append]
  generalize hρ : su (su (su (su (su (su (su σ 15 0 0) 15 1 0) 15 2 0) 15 3 0) 15 4 0) 15 5 0) 15 6 0 = ρ
  have r10 : ρ 10 = σ 10 := by rw [← hρ]; simp only [su_at, su_ne, sr_eq, sr_ne, ne_eq, Nat.reduceEqDiff, not_false_eq_true, not_true_eq_false, if_true, if_false]
  have r16 : ρ 16 = σ 16 := by rw [← hρ]; simp only [su_at, su_ne, sr_eq, sr_ne, ne_eq, Nat.reduceEqDiff, not_false_eq_true, not_true_eq_false, if_true, if_false]
  have r17 : ρ 17 = σ 17 := by rw [← hρ]; simp only [su_at, su_ne, sr_eq, sr_ne, ne_eq, Nat.reduceEqDiff, not_false_eq_true, not_true_eq_false, if_true, if_false]
  have main : ∀ j k, k + j = 6 → aE l d none 7 cX7_begin none (fun r' σ'' => r' = none ∧ σ'' = sr (sr ρ 16 (pre 6 (σ 10) (σ 16))) 17 (pre 6 (fun _ => 0) (σ 17))) 37 [some (.ref 15), some (.ref 9), some (.int (nI k))] [] (sr (sr ρ 16 (pre k (σ 10) (σ 16))) 17 (pre k (fun _ => 0) (σ 17))) := by
    intro j
    induction j with
    | zero =>
      intro k hkn
      have hkn : k = 6 := by omega
      subst hkn
      simp only [eX7_begin_37, eX7_begin_38, eX7_begin_40, eX7_begin_68, fx0, fx1, fx2, fx3, fx4, nl_int, nl_ref, nl_none, nl_ti, rz_nil, rz_int, rz_ref, rz_long, cf1, cf2, Option.toList_some, Option.toList_none, List.cons_append, List.nil_append, show (6 : Int32) ≤ nI 6 by decide, if_true, true_or, or_true, true_and, and_true, and_self]
    | succ j ih =>
      intro k hkn
      have h2 : ¬ (6 : Int32) ≤ nI k := by rw [show (6 : Int32) = nI 6 from rfl, nile (by omega) (by omega)]; omega
      have hin : vp_in (nI k) 6 := vin (by omega) (by omega)
      have hcl : (nI k).toNatClampNeg = k := nic (by omega)
      rw [eX7_begin_37]
      simp only [eX7_begin_38, eX7_begin_40, eX7_begin_43, eX7_begin_44, eX7_begin_47, eX7_begin_48, eX7_begin_49, eX7_begin_52, eX7_begin_53, eX7_begin_54, eX7_begin_55, eX7_begin_56, eX7_begin_59, eX7_begin_60, eX7_begin_61, eX7_begin_62, eX7_begin_65, fx0, fx1, fx2, fx3, fx4, nl_int, nl_ref, nl_none, nl_ti, rz_nil, rz_int, rz_ref, rz_long, cf1, cf2, Option.toList_some, Option.toList_none, List.cons_append, List.nil_append, su_at, su_ne, sr_eq, sr_ne, ne_eq, Nat.reduceEqDiff, not_false_eq_true, not_true_eq_false, if_true, if_false, h2, if_false, hin, hcl, nI_1, true_and, r10, su_sr_ne, su_sr, pre_up]
      have e1 : upd (pre k (σ 10) (σ 16)) k (σ 10 k) = pre (k + 1) (σ 10) (σ 16) := pre_up k _ _
      have e2 : upd (pre k (fun _ => 0) (σ 17)) k 0 = pre (k + 1) (fun _ => 0) (σ 17) := pre_up k (fun _ => 0) _
      try rw [e1]
      try rw [e2]
      exact ih (k + 1) (by omega)
  have := main 6 0 (by omega)
  rw [pre_0, pre_0, ← r16, sr_self, ← r17, sr_self, r16, r17] at this
  exact this
end BG
