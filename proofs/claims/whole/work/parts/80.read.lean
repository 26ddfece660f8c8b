/-! taking the contract: the model -/
section RD
variable {l : Launch} {d : Nat} {σ : aW}
def trS (σ : aW) : aW := su (su (su (su (su (su σ 109 0 (σ 116 0)) 109 1 (σ 116 1)) 109 2 (σ 116 2)) 109 3 (σ 116 3)) 109 4 (σ 109 19)) 109 8 (σ 109 24)
def trA (ρ : aW) (k : Nat) : aW := sr (sr (sr (sr ρ 114 (pre k (ρ 117) (pre 19 (fun _ => 0) (ρ 114)))) 110 (pre k (ρ 118) (ρ 110))) 111 (pre k (ρ 119) (ρ 111))) 112 (pre k (ρ 120) (ρ 112))
theorem m_takeRead {w s : Nat} (hw : σ 109 19 = nI w) (hw6 : w ≤ 6) (hs : σ 109 24 = nI s) (hs8 : s ≤ 8) : Sem l (d + 1) 108 [.ref 109] σ none (sr (trA (trS σ) w) 113 (pre s (σ 121) (σ 113))) := by
  refine Sem_of rfl (Nat.le_of_ble_eq_true rfl) ?_
  show aE l d none 10 cX10_takeRead none _ 0 [some (.ref 109), none] [] σ
  have i4 : vp_in 0 4 ∧ vp_in 1 4 ∧ vp_in 2 4 ∧ vp_in 3 4 := ⟨vin (n := 0) (by decide) (by decide), vin (n := 1) (by decide) (by decide), vin (n := 2) (by decide) (by decide), vin (n := 3) (by decide) (by decide)⟩
  simp only [eX10_takeRead_0, eX10_takeRead_1, eX10_takeRead_2, eX10_takeRead_5, eX10_takeRead_6, eX10_takeRead_7, eX10_takeRead_10, eX10_takeRead_11, eX10_takeRead_12, eX10_takeRead_15, eX10_takeRead_16, eX10_takeRead_17, eX10_takeRead_20, eX10_takeRead_21, eX10_takeRead_22, eX10_takeRead_25, eX10_takeRead_26, eX10_takeRead_27, eX10_takeRead_30, eX10_takeRead_31, eX10_takeRead_32, eX10_takeRead_35, eX10_takeRead_36, eX10_takeRead_37, eX10_takeRead_40, eX10_takeRead_41, eX10_takeRead_42, eX10_takeRead_45, eX10_takeRead_48, eX10_takeRead_49, eX10_takeRead_50, eX10_takeRead_53, eX10_takeRead_56, eX10_takeRead_57, fx0, fx1, fx2, fx3, fx4, nl_int, nl_ref, nl_none, nl_ti, rz_nil, rz_int, rz_ref, rz_long, cf1, cf2, Option.toList_some, Option.toList_none, List.cons_append, List.nil_append, su_at, su_ne, sr_eq, sr_ne, ne_eq, Nat.reduceEqDiff, not_false_eq_true, not_true_eq_false, if_true, if_false, i4, true_and]
  generalize hρ : trS σ = ρ
  have hρ2 : su (su (su (su (su (su σ 109 0 (σ 116 0)) 109 1 (σ 116 1)) 109 2 (σ 116 2)) 109 3 (σ 116 3)) 109 4 (σ 109 19)) 109 8 (σ 109 24) = ρ := hρ
  rw [hρ2]
  have ro : ∀ c, c ≠ 109 → ρ c = σ c := fun c hc => by rw [← hρ2, su_ne hc, su_ne hc, su_ne hc, su_ne hc, su_ne hc, su_ne hc]
  have r4 : ρ 109 4 = nI w := by rw [← hρ2, su_at, if_neg (by decide), su_at, if_pos rfl]; exact hw
  have r8 : ρ 109 8 = nI s := by rw [← hρ2, su_at, if_pos rfl]; exact hs
  have l3 : ∀ j k, k + j = s → aE l d none 10 cX10_takeRead none (fun r' σ'' => r' = none ∧ σ'' = sr (trA ρ w) 113 (pre s (σ 121) (σ 113))) 143 [some (.ref 109), some (.int (nI k))] [] (sr (trA ρ w) 113 (pre k (σ 121) (σ 113))) := by
    intro j
    induction j with
    | zero =>
      intro k hkn
      have hkn : k = s := by omega
      subst hkn
      have e1 : nI k ≤ nI k := (nile (by omega) (by omega)).mpr (Nat.le_refl k)
      simp only [eX10_takeRead_143, eX10_takeRead_144, eX10_takeRead_145, eX10_takeRead_148, eX10_takeRead_169, fx0, fx1, fx2, fx3, fx4, nl_int, nl_ref, nl_none, nl_ti, rz_nil, rz_int, rz_ref, rz_long, cf1, cf2, Option.toList_some, Option.toList_none, List.cons_append, List.nil_append, trA, su_at, su_ne, sr_eq, sr_ne, ne_eq, Nat.reduceEqDiff, not_false_eq_true, not_true_eq_false, if_true, if_false, r8, e1, if_true, true_or, or_true, true_and, and_true, and_self]
    | succ j ih =>
      intro k hkn
      have e1 : ¬ nI s ≤ nI k := by rw [nile (by omega) (by omega)]; omega
      have hin : vp_in (nI k) 8 := vin (by omega) (by omega)
      have hcl : (nI k).toNatClampNeg = k := nic (by omega)
      have h8 : (sr (trA ρ w) 113 (pre k (σ 121) (σ 113))) 109 8 = nI s := by simp only [trA, su_at, su_ne, sr_eq, sr_ne, ne_eq, Nat.reduceEqDiff, not_false_eq_true, not_true_eq_false, if_true, if_false]; exact r8
      have h121 : (sr (trA ρ w) 113 (pre k (σ 121) (σ 113))) 121 = σ 121 := by simp only [trA, su_at, su_ne, sr_eq, sr_ne, ne_eq, Nat.reduceEqDiff, not_false_eq_true, not_true_eq_false, if_true, if_false]; exact ro 121 (by decide)
      rw [eX10_takeRead_143]
      simp only [eX10_takeRead_144, eX10_takeRead_145, eX10_takeRead_148, eX10_takeRead_151, eX10_takeRead_152, eX10_takeRead_155, eX10_takeRead_156, eX10_takeRead_157, eX10_takeRead_160, eX10_takeRead_161, eX10_takeRead_162, eX10_takeRead_163, eX10_takeRead_166, fx0, fx1, fx2, fx3, fx4, nl_int, nl_ref, nl_none, nl_ti, rz_nil, rz_int, rz_ref, rz_long, cf1, cf2, Option.toList_some, Option.toList_none, List.cons_append, List.nil_append, h8, h121, e1, if_false, hin, hcl, nI_1, true_and, pre_step (h := σ 121) rfl]
      exact ih (k + 1) (by omega)
  have l2 : ∀ j k, k + j = w → aE l d none 10 cX10_takeRead none (fun r' σ'' => r' = none ∧ σ'' = sr (trA ρ w) 113 (pre s (σ 121) (σ 113))) 79 [some (.ref 109), some (.int (nI k))] [] (trA ρ k) := by
    intro j
    induction j with
    | zero =>
      intro k hkn
      have hkn : k = w := by omega
      subst hkn
      have e1 : nI k ≤ nI k := (nile (by omega) (by omega)).mpr (Nat.le_refl k)
      have h4 : (trA ρ k) 109 4 = nI k := by simp only [trA, su_at, su_ne, sr_eq, sr_ne, ne_eq, Nat.reduceEqDiff, not_false_eq_true, not_true_eq_false, if_true, if_false]; exact r4
      have h113 : (trA ρ k) 113 = σ 113 := by simp only [trA, su_at, su_ne, sr_eq, sr_ne, ne_eq, Nat.reduceEqDiff, not_false_eq_true, not_true_eq_false, if_true, if_false]; exact ro 113 (by decide)
      rw [eX10_takeRead_79]
      simp only [eX10_takeRead_80, eX10_takeRead_81, eX10_takeRead_84, eX10_takeRead_141, eX10_takeRead_142, fx0, fx1, fx2, fx3, fx4, nl_int, nl_ref, nl_none, nl_ti, rz_nil, rz_int, rz_ref, rz_long, cf1, cf2, Option.toList_some, Option.toList_none, List.cons_append, List.nil_append, h4, e1, if_true]
      have := l3 s 0 (by omega)
      rw [pre_0, ← h113, sr_self] at this
      rw [← h113]
      exact this
    | succ j ih =>
      intro k hkn
      have e1 : ¬ nI w ≤ nI k := by rw [nile (by omega) (by omega)]; omega
      have hin : vp_in (nI k) 6 := vin (by omega) (by omega)
      have hin2 : vp_in (nI k) 19 := vin (by omega) (by omega)
      have hcl : (nI k).toNatClampNeg = k := nic (by omega)
      have key := ih (k + 1) (by omega)
      rw [eX10_takeRead_79]
      unfold trA at key ⊢
      rw [← pre_up k (ρ 117), ← pre_up k (ρ 118), ← pre_up k (ρ 119), ← pre_up k (ρ 120)] at key
      simp only [eX10_takeRead_80, eX10_takeRead_81, eX10_takeRead_84, eX10_takeRead_87, eX10_takeRead_88, eX10_takeRead_91, eX10_takeRead_92, eX10_takeRead_93, eX10_takeRead_96, eX10_takeRead_97, eX10_takeRead_98, eX10_takeRead_99, eX10_takeRead_100, eX10_takeRead_103, eX10_takeRead_104, eX10_takeRead_105, eX10_takeRead_108, eX10_takeRead_109, eX10_takeRead_110, eX10_takeRead_111, eX10_takeRead_112, eX10_takeRead_115, eX10_takeRead_116, eX10_takeRead_117, eX10_takeRead_120, eX10_takeRead_121, eX10_takeRead_122, eX10_takeRead_123, eX10_takeRead_124, eX10_takeRead_127, eX10_takeRead_128, eX10_takeRead_129, eX10_takeRead_132, eX10_takeRead_133, eX10_takeRead_134, eX10_takeRead_135, eX10_takeRead_138, fx0, fx1, fx2, fx3, fx4, nl_int, nl_ref, nl_none, nl_ti, rz_nil, rz_int, rz_ref, rz_long, cf1, cf2, Option.toList_some, Option.toList_none, List.cons_append, List.nil_append, su_at, su_ne, sr_eq, sr_ne, ne_eq, Nat.reduceEqDiff, not_false_eq_true, not_true_eq_false, if_true, if_false, r4, e1, if_false, hin, hin2, hcl, nI_1, true_and, su_sr_ne, su_sr]
      exact key
  have sid : ∀ (τ : aW) (c : Nat) (f : Nat → Int32), τ c = f → sr τ c f = τ := fun τ c f e => by rw [← e, sr_self]
  have l1 : ∀ j k, k + j = 19 → aE l d none 10 cX10_takeRead none (fun r' σ'' => r' = none ∧ σ'' = sr (trA ρ w) 113 (pre s (σ 121) (σ 113))) 58 [some (.ref 109), some (.int (nI k))] [] (sr ρ 114 (pre k (fun _ => 0) (ρ 114))) := by
    intro j
    induction j with
    | zero =>
      intro k hkn
      have hkn : k = 19 := by omega
      subst hkn
      rw [eX10_takeRead_58]
      simp only [eX10_takeRead_59, eX10_takeRead_61, eX10_takeRead_77, eX10_takeRead_78, fx0, fx1, fx2, fx3, fx4, nl_int, nl_ref, nl_none, nl_ti, rz_nil, rz_int, rz_ref, rz_long, cf1, cf2, Option.toList_some, Option.toList_none, List.cons_append, List.nil_append, show (19 : Int32) ≤ nI 19 by decide, if_true]
      have := l2 w 0 (by omega)
      rw [show trA ρ 0 = sr ρ 114 (pre 19 (fun _ => 0) (ρ 114)) from by
        unfold trA
        rw [pre_0, pre_0, pre_0, pre_0, sid _ 112 _ (by simp only [su_at, su_ne, sr_eq, sr_ne, ne_eq, Nat.reduceEqDiff, not_false_eq_true, not_true_eq_false, if_true, if_false]), sid _ 111 _ (by simp only [su_at, su_ne, sr_eq, sr_ne, ne_eq, Nat.reduceEqDiff, not_false_eq_true, not_true_eq_false, if_true, if_false]), sid _ 110 _ (by simp only [su_at, su_ne, sr_eq, sr_ne, ne_eq, Nat.reduceEqDiff, not_false_eq_true, not_true_eq_false, if_true, if_false])]] at this
      exact this
    | succ j ih =>
      intro k hkn
      have h2 : ¬ (19 : Int32) ≤ nI k := by rw [show (19 : Int32) = nI 19 from rfl, nile (by omega) (by omega)]; omega
      have hin : vp_in (nI k) 19 := vin (by omega) (by omega)
      have hcl : (nI k).toNatClampNeg = k := nic (by omega)
      rw [eX10_takeRead_58]
      simp only [eX10_takeRead_59, eX10_takeRead_61, eX10_takeRead_64, eX10_takeRead_65, eX10_takeRead_68, eX10_takeRead_69, eX10_takeRead_70, eX10_takeRead_71, eX10_takeRead_74, fx0, fx1, fx2, fx3, fx4, nl_int, nl_ref, nl_none, nl_ti, rz_nil, rz_int, rz_ref, rz_long, cf1, cf2, Option.toList_some, Option.toList_none, List.cons_append, List.nil_append, h2, if_false, hin, hcl, nI_1, true_and, pre_step (h := fun _ => 0) rfl]
      exact ih (k + 1) (by omega)
  have := l1 19 0 (by omega)
  rw [pre_0, sr_self] at this
  exact this
end RD
