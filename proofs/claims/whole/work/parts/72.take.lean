/-! a number of the text: the model -/
def tnQ (σ : aW) (n p : Nat) (c : Int32) (τ : aW) : Prop := (∀ a, a ≠ 109 → τ a = σ a) ∧ (∀ k, k ≠ 14 → k ≠ 15 → k ≠ 16 → k ≠ 17 → τ 109 k = σ 109 k) ∧ τ 109 15 = nI (nE (σ 115) n p) ∧ (c = 0 → τ 109 16 = nV (σ 115) n p ∧ τ 109 14 = σ 109 14) ∧ (¬ c = 0 → τ 109 14 = nI (nP (σ 115) n p))
section TN
variable {l : Launch} {d : Nat} {σ : aW}
theorem m_takeNumber {n p : Nat} {lo hi : Int32} {P : Option Value → aW → Prop} (h1 : σ 109 13 = nI n) (hn : n ≤ 220) (h4 : σ 109 15 = nI p) (hp : p ≤ n) (hP : ∀ τ, tnQ σ n p (nC (σ 115) n p lo hi) τ → P (some (.int (nC (σ 115) n p lo hi))) τ) : aC l (d + 2) 102 [.ref 109, .int lo, .int hi] σ P := by
  refine aC_of rfl (Nat.le_of_ble_eq_true rfl) ?_
  show aE l (d + 1) none 10 cX10_takeNumber (some .int) _ 0 [some (.ref 109), some (.int lo), some (.int hi), none] [] σ
  simp only [eX10_takeNumber_0, eX10_takeNumber_1, fx0, fx1, fx2, fx3, fx4, nl_int, nl_ref, nl_none, nl_ti, rz_nil, rz_int, rz_ref, rz_long, cf1, cf2, Option.toList_some, Option.toList_none, List.cons_append, List.nil_append]
  refine aC.of (m_here h1 hn h4 hp) ?_
  obtain ⟨g1, g2⟩ := sk_le (tx := σ 115) hp
  have hfin : nP (σ 115) n p ≤ nE (σ 115) n p ∧ nE (σ 115) n p ≤ n := fgF_le (tx := σ 115) (n - sk (σ 115) n p) (sk (σ 115) n p) (by omega)
  generalize hx : hrF (σ 115) n (sk (σ 115) n p) = x
  simp only [eX10_takeNumber_4, eX10_takeNumber_5, eX10_takeNumber_6, eX10_takeNumber_7, eX10_takeNumber_10, eX10_takeNumber_13, fx0, fx1, fx2, fx3, fx4, nl_int, nl_ref, nl_none, nl_ti, rz_nil, rz_int, rz_ref, rz_long, cf1, cf2, Option.toList_some, Option.toList_none, List.cons_append, List.nil_append]
  refine aC.of m_in ?_
  rw [inB_fg]
  by_cases e : fgB x = true
  · have hlt : sk (σ 115) n p < n := by
      by_cases c : sk (σ 115) n p < n
      · exact c
      · rw [← hx] at e
        unfold hrF at e
        rw [if_neg c] at e
        exact absurd e (by decide)
    have hx2 : x = σ 115 (sk (σ 115) n p) := by rw [← hx]; exact if_pos hlt
    have hK0 : ¬ nK (σ 115) n p = 0 := by
      have : sk (σ 115) n p + 1 ≤ nE (σ 115) n p := by
        unfold nE
        obtain ⟨f, hf⟩ : ∃ f, n - sk (σ 115) n p = f + 1 := ⟨n - sk (σ 115) n p - 1, by omega⟩
        rw [hf, fgF_s, if_pos ⟨hlt, by rw [← hx2]; exact e⟩]
        exact (fgF_le f _ (by omega)).1
      unfold nK nP
      omega
    simp only [eX10_takeNumber_16, eX10_takeNumber_29, eX10_takeNumber_30, eX10_takeNumber_31, eX10_takeNumber_34, eX10_takeNumber_37, eX10_takeNumber_38, eX10_takeNumber_39, fx0, fx1, fx2, fx3, fx4, nl_int, nl_ref, nl_none, nl_ti, rz_nil, rz_int, rz_ref, rz_long, cf1, cf2, Option.toList_some, Option.toList_none, List.cons_append, List.nil_append, su_at, su_ne, sr_eq, sr_ne, ne_eq, Nat.reduceEqDiff, not_false_eq_true, not_true_eq_false, if_true, if_false, e, if_true, show ¬ (1 : Int32) = 0 by decide, if_false]
    have fin : ∀ τ : aW, (∀ a, a ≠ 109 → τ a = σ a) → (∀ k, k ≠ 15 → k ≠ 16 → k ≠ 17 → τ 109 k = σ 109 k) → τ 109 15 = nI (nE (σ 115) n p) → τ 109 17 = nI (sk (σ 115) n p) → τ 109 16 = mvF (σ 115) (sk (σ 115) n p) (nK (σ 115) n p) → aE l (d + 1) none 10 cX10_takeNumber (some .int) P 129 [some (.ref 109), some (.int lo), some (.int hi), some (.int x)] [] τ := by
      intro τ t1 t2 t15 t17 t16
      have hsub : nI (nE (σ 115) n p) - nI (sk (σ 115) n p) = nI (nK (σ 115) n p) := nI_sb hfin.1
      have hK : nK (σ 115) n p ≤ 220 := by unfold nK; omega
      have bad : nC (σ 115) n p lo hi = 2 → aE l (d + 1) none 10 cX10_takeNumber (some .int) P 157 [some (.ref 109), some (.int lo), some (.int hi), some (.int x)] [] τ := by
        intro hc
        rw [hc] at hP
        simp only [eX10_takeNumber_157, eX10_takeNumber_158, eX10_takeNumber_159, eX10_takeNumber_160, eX10_takeNumber_163, fx0, fx1, fx2, fx3, fx4, nl_int, nl_ref, nl_none, nl_ti, rz_nil, rz_int, rz_ref, rz_long, cf1, cf2, Option.toList_some, Option.toList_none, List.cons_append, List.nil_append, t17]
        refine aC.of m_fails ?_
        simp only [eX10_takeNumber_166, eX10_takeNumber_169, eX10_takeNumber_170, fx0, fx1, fx2, fx3, fx4, nl_int, nl_ref, nl_none, nl_ti, rz_nil, rz_int, rz_ref, rz_long, cf1, cf2, Option.toList_some, Option.toList_none, List.cons_append, List.nil_append]
        refine hP _ ⟨fun a ha => by rw [su_ne ha]; exact t1 a ha, fun k k1 k2 k3 k4 => by rw [su_at, if_neg k1]; exact t2 k k2 k3 k4, by rw [su_at, if_neg (by decide)]; exact t15, fun c => absurd c (by decide), fun _ => by rw [su_at, if_pos rfl]; rfl⟩
      by_cases e1 : 3 < nK (σ 115) n p
      · have e1' : (3 : Int32) < nI (nK (σ 115) n p) := by rw [show (3 : Int32) = nI 3 from rfl, nilt (by omega) (by omega)]; exact e1
        simp only [eX10_takeNumber_129, eX10_takeNumber_130, eX10_takeNumber_133, eX10_takeNumber_134, eX10_takeNumber_137, eX10_takeNumber_138, eX10_takeNumber_139, fx0, fx1, fx2, fx3, fx4, nl_int, nl_ref, nl_none, nl_ti, rz_nil, rz_int, rz_ref, rz_long, cf1, cf2, Option.toList_some, Option.toList_none, List.cons_append, List.nil_append, t15, t17, hsub, e1', if_true]
        exact bad (by unfold nC; rw [if_neg hK0, if_pos (Or.inl e1)])
      · have e1' : ¬ (3 : Int32) < nI (nK (σ 115) n p) := by rw [show (3 : Int32) = nI 3 from rfl, nilt (by omega) (by omega)]; exact e1
        have hall : ∀ j, j < nK (σ 115) n p → fgB (σ 115 (sk (σ 115) n p + j)) = true := by
          intro j hj
          refine fgF_all (n := n) (n - sk (σ 115) n p) (sk (σ 115) n p) _ (by omega) ?_
          have w1 : nK (σ 115) n p = nE (σ 115) n p - sk (σ 115) n p := rfl
          show sk (σ 115) n p + j < nE (σ 115) n p
          omega
        obtain ⟨V, v1, v2, v3⟩ := cv_mv (tx := σ 115) (p := sk (σ 115) n p) (nK (σ 115) n p) (by omega) hall
        have hv : mvF (σ 115) (sk (σ 115) n p) (nK (σ 115) n p) = nV (σ 115) n p := by rw [v3, ← v2]; rfl
        rw [hv] at t16
        simp only [eX10_takeNumber_129, eX10_takeNumber_130, eX10_takeNumber_133, eX10_takeNumber_134, eX10_takeNumber_137, eX10_takeNumber_138, eX10_takeNumber_139, eX10_takeNumber_142, eX10_takeNumber_143, eX10_takeNumber_146, eX10_takeNumber_147, eX10_takeNumber_148, eX10_takeNumber_149, eX10_takeNumber_150, eX10_takeNumber_151, fx0, fx1, fx2, fx3, fx4, nl_int, nl_ref, nl_none, nl_ti, rz_nil, rz_int, rz_ref, rz_long, cf1, cf2, Option.toList_some, Option.toList_none, List.cons_append, List.nil_append, t15, t17, t16, hsub, e1', if_false]
        refine aC.of m_in ?_
        rw [inB_32]
        by_cases e2 : nV (σ 115) n p < lo ∨ hi < nV (σ 115) n p
        · simp only [eX10_takeNumber_154, fx0, fx1, fx2, fx3, fx4, nl_int, nl_ref, nl_none, nl_ti, rz_nil, rz_int, rz_ref, rz_long, cf1, cf2, Option.toList_some, Option.toList_none, List.cons_append, List.nil_append, e2, if_true]
          exact bad (by unfold nC; rw [if_neg hK0, if_pos (Or.inr e2)])
        · have hc : nC (σ 115) n p lo hi = 0 := by
            unfold nC
            rw [if_neg hK0, if_neg]
            rintro (c | c)
            · exact e1 c
            · exact e2 c
          rw [hc] at hP
          simp only [eX10_takeNumber_154, eX10_takeNumber_169, eX10_takeNumber_170, fx0, fx1, fx2, fx3, fx4, nl_int, nl_ref, nl_none, nl_ti, rz_nil, rz_int, rz_ref, rz_long, cf1, cf2, Option.toList_some, Option.toList_none, List.cons_append, List.nil_append, e2, if_false, show ¬ (1 : Int32) = 0 by decide]
          exact hP _ ⟨t1, fun k k1 k2 k3 k4 => t2 k k2 k3 k4, t15, fun _ => ⟨t16, t2 14 (by decide) (by decide) (by decide)⟩, fun c => absurd rfl c⟩
    have main : ∀ f q (τ : aW), q + f = n → sk (σ 115) n p ≤ q → fgF (σ 115) n f q = nE (σ 115) n p → (∀ a, a ≠ 109 → τ a = σ a) → (∀ k, k ≠ 15 → k ≠ 16 → k ≠ 17 → τ 109 k = σ 109 k) → τ 109 15 = nI q → τ 109 17 = nI (sk (σ 115) n p) → τ 109 16 = mvF (σ 115) (sk (σ 115) n p) (q - sk (σ 115) n p) → aE l (d + 1) none 10 cX10_takeNumber (some .int) P 42 [some (.ref 109), some (.int lo), some (.int hi), some (.int x)] [] τ := by
      intro f
      induction f with
      | zero =>
        intro q τ hq hsq hf t1 t2 t15 t17 t16
        have hqE : q = nE (σ 115) n p := hf
        have e1 : nI n ≤ nI q := (nile (by omega) (by omega)).mpr (by omega)
        have t13 : τ 109 13 = nI n := by rw [t2 13 (by decide) (by decide) (by decide)]; exact h1
        rw [eX10_takeNumber_42]
        simp only [eX10_takeNumber_43, eX10_takeNumber_46, eX10_takeNumber_47, eX10_takeNumber_50, fx0, fx1, fx2, fx3, fx4, nl_int, nl_ref, nl_none, nl_ti, rz_nil, rz_int, rz_ref, rz_long, cf1, cf2, Option.toList_some, Option.toList_none, List.cons_append, List.nil_append, t13, t15, e1, if_true]
        exact fin τ t1 t2 (by rw [t15, hqE]) t17 (by rw [t16, hqE]; rfl)
      | succ f ih =>
        intro q τ hq hsq hf t1 t2 t15 t17 t16
        rw [fgF_s] at hf
        have e1 : ¬ nI n ≤ nI q := by rw [nile (by omega) (by omega)]; omega
        have t13 : τ 109 13 = nI n := by rw [t2 13 (by decide) (by decide) (by decide)]; exact h1
        have t115 := t1 115 (by decide)
        have hin : vp_in (nI q) 220 := vin (by omega) (by omega)
        have hcl : (nI q).toNatClampNeg = q := nic (by omega)
        rw [eX10_takeNumber_42]
        simp only [eX10_takeNumber_43, eX10_takeNumber_46, eX10_takeNumber_47, eX10_takeNumber_50, eX10_takeNumber_53, eX10_takeNumber_54, eX10_takeNumber_57, eX10_takeNumber_58, eX10_takeNumber_61, eX10_takeNumber_62, eX10_takeNumber_63, eX10_takeNumber_66, eX10_takeNumber_69, fx0, fx1, fx2, fx3, fx4, nl_int, nl_ref, nl_none, nl_ti, rz_nil, rz_int, rz_ref, rz_long, cf1, cf2, Option.toList_some, Option.toList_none, List.cons_append, List.nil_append, t13, t15, e1, if_false, hin, hcl, true_and, t115]
        refine aC.of m_in ?_
        rw [inB_fg]
        by_cases e2 : fgB (σ 115 q) = true
        · rw [if_pos ⟨by omega, e2⟩] at hf
          have hk : q + 1 - sk (σ 115) n p = q - sk (σ 115) n p + 1 := by omega
          have hpk : sk (σ 115) n p + (q - sk (σ 115) n p) = q := by omega
          have hms := mvF_s (σ 115) (sk (σ 115) n p) (q - sk (σ 115) n p)
          rw [hpk] at hms
          have go : ∀ v : Int32, v = mvF (σ 115) (sk (σ 115) n p) (q - sk (σ 115) n p + 1) → aE l (d + 1) none 10 cX10_takeNumber (some .int) P 113 [some (.ref 109), some (.int lo), some (.int hi), some (.int x)] [.int v, .ref 109] τ := by
            intro v hv
            simp only [eX10_takeNumber_113, eX10_takeNumber_116, eX10_takeNumber_117, eX10_takeNumber_118, eX10_takeNumber_121, eX10_takeNumber_122, eX10_takeNumber_123, eX10_takeNumber_126, fx0, fx1, fx2, fx3, fx4, nl_int, nl_ref, nl_none, nl_ti, rz_nil, rz_int, rz_ref, rz_long, cf1, cf2, Option.toList_some, Option.toList_none, List.cons_append, List.nil_append, su_at, su_ne, sr_eq, sr_ne, ne_eq, Nat.reduceEqDiff, not_false_eq_true, not_true_eq_false, if_true, if_false, t15, nI_1]
            refine ih (q + 1) _ (by omega) (by omega) hf (fun a ha => by rw [su_ne ha, su_ne ha]; exact t1 a ha) (fun k k1 k2 k3 => by rw [su_at, if_neg k1, su_at, if_neg k2]; exact t2 k k1 k2 k3) (by rw [su_at, if_pos rfl]) (by rw [su_at, if_neg (by decide), su_at, if_neg (by decide)]; exact t17) (by rw [su_at, if_neg (by decide), su_at, if_pos rfl, hk]; exact hv)
          by_cases e3 : mvF (σ 115) (sk (σ 115) n p) (q - sk (σ 115) n p) ≤ 10000
          · rw [if_pos e3] at hms
            simp only [eX10_takeNumber_72, eX10_takeNumber_75, eX10_takeNumber_76, eX10_takeNumber_77, eX10_takeNumber_80, eX10_takeNumber_83, eX10_takeNumber_86, eX10_takeNumber_87, eX10_takeNumber_90, eX10_takeNumber_93, eX10_takeNumber_95, eX10_takeNumber_96, eX10_takeNumber_99, eX10_takeNumber_100, eX10_takeNumber_101, eX10_takeNumber_104, eX10_takeNumber_105, eX10_takeNumber_108, eX10_takeNumber_109, eX10_takeNumber_110, eX10_takeNumber_112, fx0, fx1, fx2, fx3, fx4, nl_int, nl_ref, nl_none, nl_ti, rz_nil, rz_int, rz_ref, rz_long, cf1, cf2, Option.toList_some, Option.toList_none, List.cons_append, List.nil_append, e2, if_true, show ¬ (1 : Int32) = 0 by decide, if_false, t16, e3, t15, hin, hcl, true_and, t115]
            exact go _ hms.symm
          · rw [if_neg e3] at hms
            simp only [eX10_takeNumber_72, eX10_takeNumber_75, eX10_takeNumber_76, eX10_takeNumber_77, eX10_takeNumber_80, eX10_takeNumber_83, eX10_takeNumber_86, eX10_takeNumber_87, eX10_takeNumber_90, fx0, fx1, fx2, fx3, fx4, nl_int, nl_ref, nl_none, nl_ti, rz_nil, rz_int, rz_ref, rz_long, cf1, cf2, Option.toList_some, Option.toList_none, List.cons_append, List.nil_append, e2, if_true, show ¬ (1 : Int32) = 0 by decide, if_false, t16, e3]
            exact go _ hms.symm
        · rw [if_neg (fun c => e2 c.2)] at hf
          simp only [eX10_takeNumber_72, fx0, fx1, fx2, fx3, fx4, nl_int, nl_ref, nl_none, nl_ti, rz_nil, rz_int, rz_ref, rz_long, cf1, cf2, Option.toList_some, Option.toList_none, List.cons_append, List.nil_append, e2, if_true, if_false]
          exact fin τ t1 t2 (by rw [t15, hf]) t17 (by rw [t16, hf]; rfl)
    refine main (n - sk (σ 115) n p) (sk (σ 115) n p) _ (by omega) (Nat.le_refl _) rfl (fun a ha => by rw [su_ne ha, su_ne ha, su_ne ha]) (fun k k1 k2 k3 => by rw [su_at, if_neg k2, su_at, if_neg k3, su_at, if_neg k1]) (by rw [su_at, if_neg (by decide), su_at, if_neg (by decide), su_at, if_pos rfl]) (by rw [su_at, if_neg (by decide), su_at, if_pos rfl]) (by rw [su_at, if_pos rfl, Nat.sub_self]; rfl)
  · have hE : nE (σ 115) n p = sk (σ 115) n p := by
      unfold nE
      by_cases c : sk (σ 115) n p < n
      · obtain ⟨f, hf⟩ : ∃ f, n - sk (σ 115) n p = f + 1 := ⟨n - sk (σ 115) n p - 1, by omega⟩
        rw [hf, fgF_s, if_neg]
        rintro ⟨-, c2⟩
        rw [← hx] at e
        unfold hrF at e
        rw [if_pos c] at e
        exact e c2
      · rw [show n - sk (σ 115) n p = 0 by omega]
        rfl
    have hc : nC (σ 115) n p lo hi = 1 := by
      unfold nC
      rw [if_pos]
      unfold nK nP
      omega
    rw [hc] at hP
    simp only [eX10_takeNumber_16, eX10_takeNumber_19, eX10_takeNumber_20, eX10_takeNumber_21, eX10_takeNumber_22, eX10_takeNumber_25, fx0, fx1, fx2, fx3, fx4, nl_int, nl_ref, nl_none, nl_ti, rz_nil, rz_int, rz_ref, rz_long, cf1, cf2, Option.toList_some, Option.toList_none, List.cons_append, List.nil_append, su_at, su_ne, sr_eq, sr_ne, ne_eq, Nat.reduceEqDiff, not_false_eq_true, not_true_eq_false, if_true, if_false, e, if_true, if_false]
    refine aC.of m_fails ?_
    simp only [eX10_takeNumber_28, fx0, fx1, fx2, fx3, fx4, nl_int, nl_ref, nl_none, nl_ti, rz_nil, rz_int, rz_ref, rz_long, cf1, cf2, Option.toList_some, Option.toList_none, List.cons_append, List.nil_append]
    refine hP _ ⟨fun a ha => by rw [su_ne ha, su_ne ha], fun k k1 k2 k3 k4 => by rw [su_at, if_neg k1, su_at, if_neg k2], by rw [su_at, if_neg (by decide), su_at, if_pos rfl, hE], fun c => absurd c (by decide), fun _ => by rw [su_at, if_pos rfl]; rfl⟩
end TN
