/-! sleeper, seed, see, write, tear, judge, feed -/
theorem slp (x : Int32) {w : Nat} (hw : w ≤ 8) : (∃ n, n < w ∧ x = nI n) ∨ ((if x < 0 then (0 : Int32) else if nI w ≤ x then 0 else if 8 ≤ x then 0 else 1) = 0 ∧ inB x.toInt64 0 (nI w - 1).toInt64 = 0) := by
  have e1 : (nI w - 1).toInt = (w : Int) - 1 := by
    rw [show (1 : Int32) = nI 1 from rfl]
    exact pk_sub_toInt (by omega) (by omega)
  by_cases h0 : x < 0
  · refine Or.inr ⟨by rw [if_pos h0], ?_⟩
    unfold inB
    rw [if_pos]
    rw [Int64.lt_iff_toInt_lt, Int32.toInt_toInt64]
    exact Int32.lt_iff_toInt_lt.mp h0
  · by_cases h1 : nI w ≤ x
    · refine Or.inr ⟨by rw [if_neg h0, if_pos h1], ?_⟩
      unfold inB
      by_cases h2 : x.toInt64 < 0
      · rw [if_pos h2]
      · rw [if_neg h2, if_pos]
        rw [Int64.lt_iff_toInt_lt, Int32.toInt_toInt64, Int32.toInt_toInt64, e1]
        have := Int32.le_iff_toInt_le.mp h1
        rw [nI_toInt (by omega)] at this
        omega
    · obtain ⟨j, hj, rfl⟩ := nI_of h0
      refine Or.inl ⟨j, ?_, rfl⟩
      rw [nI_leI (by omega) hj] at h1
      omega
theorem slp1 {n w : Nat} (h : n < w) (hw : w ≤ 8) : (if nI n < 0 then (0 : Int32) else if nI w ≤ nI n then 0 else if 8 ≤ nI n then 0 else 1) = 1 ∧ inB (nI n).toInt64 0 (nI w - 1).toInt64 = 1 := by
  have e1 : (nI w - 1).toInt = (w : Int) - 1 := by
    rw [show (1 : Int32) = nI 1 from rfl]
    exact pk_sub_toInt (by omega) (by omega)
  refine ⟨?_, ?_⟩
  · rw [if_neg (nI_pos (by omega)), if_neg (by rw [nile (by omega) (by omega)]; omega), if_neg (by rw [show (8 : Int32) = nI 8 from rfl, nile (by omega) (by omega)]; omega)]
  · unfold inB
    rw [if_neg, if_neg]
    · rw [Int64.lt_iff_toInt_lt, Int32.toInt_toInt64, Int32.toInt_toInt64, e1, nI_toInt (by omega)]
      omega
    · rw [Int64.lt_iff_toInt_lt, Int32.toInt_toInt64, nI_toInt (by omega)]
      simp
/-- an int between 0 and N, both ways of asking -/
theorem rgc (x : Int32) {N : Nat} (hN : N ≤ 1000) : (∃ n, n ≤ N ∧ x = nI n) ∨ ((x < 0 ∨ (¬ x < 0 ∧ ¬ x ≤ nI N)) ∧ inB x.toInt64 0 (nI N).toInt64 = 0) := by
  by_cases h0 : x < 0
  · refine Or.inr ⟨Or.inl h0, ?_⟩
    unfold inB
    rw [if_pos]
    rw [Int64.lt_iff_toInt_lt, Int32.toInt_toInt64]
    exact Int32.lt_iff_toInt_lt.mp h0
  · obtain ⟨j, hj, rfl⟩ := nI_of h0
    by_cases h1 : j ≤ N
    · exact Or.inl ⟨j, h1, rfl⟩
    · refine Or.inr ⟨Or.inr ⟨h0, by rw [nI_leI hj (by omega)]; exact h1⟩, ?_⟩
      unfold inB
      rw [if_neg, if_pos]
      · rw [Int64.lt_iff_toInt_lt, Int32.toInt_toInt64, Int32.toInt_toInt64, nI_toInt hj, nI_toInt (by omega)]
        omega
      · rw [Int64.lt_iff_toInt_lt, Int32.toInt_toInt64, nI_toInt hj]
        simp
theorem rgc1 {n N : Nat} (h : n ≤ N) (hN : N ≤ 1000) : ¬ nI n < 0 ∧ nI n ≤ nI N ∧ inB (nI n).toInt64 0 (nI N).toInt64 = 1 := by
  refine ⟨nI_pos (by omega), by rw [nile (by omega) (by omega)]; exact h, ?_⟩
  unfold inB
  rw [if_neg, if_neg]
  · rw [Int64.lt_iff_toInt_lt, Int32.toInt_toInt64, Int32.toInt_toInt64, nI_toInt (by omega), nI_toInt (by omega)]
    omega
  · rw [Int64.lt_iff_toInt_lt, Int32.toInt_toInt64, nI_toInt (by omega)]
    simp
section O3
variable {l : Launch} {d : Nat} {σ : aW}
theorem op_sleeper (hI : Inv σ) (p : Int32) : Pair l (d + 30) 66 113 [.int p] σ := by
  have hI0 := hI
  obtain ⟨h, w, s, hK, ⟨hS, hR⟩, hH, hIm, hD, hE, hB, hT⟩ := hI
  have hs8 : s ≤ 8 := hK.2.1.2.2
  have k1 : σ 9 5 = nI s := hK.2.1.1
  have k2 : σ 109 8 = nI s := hK.2.1.2.1
  refine aC_of rfl (Nat.le_of_ble_eq_true rfl) ?_
  show aE l (d + 29) none 9 cX9_sleeper (some .int) _ 0 [some (.ref 0), some (.int p)] [] σ
  simp only [eX9_sleeper_0, eX9_sleeper_1, eX9_sleeper_4, eX9_sleeper_5, fx0, fx1, fx2, fx3, fx4, nl_int, nl_ref, nl_none, nl_ti, rz_nil, rz_int, rz_ref, rz_long, cf1, cf2, Option.toList_some, Option.toList_none, List.cons_append, List.nil_append]
  refine aC.of (c_hasSleeper (Or.inr rfl)) ?_
  rw [k1]
  have hm : ∀ (P : Option Value → aW → Prop) (v : Int32), inB p.toInt64 0 (nI s - 1).toInt64 = v → aE l (d + 29) none 10 cX10_sleeper (some .int) P 5 [some (.ref 109), some (.int p)] [.int v] σ → aC l (d + 30) 113 [.ref 109, .int p] σ P := by
    intro P v hv hP
    refine aC_of rfl (Nat.le_of_ble_eq_true rfl) ?_
    show aE l (d + 29) none 10 cX10_sleeper (some .int) _ 0 [some (.ref 109), some (.int p)] [] σ
    simp only [eX10_sleeper_0, eX10_sleeper_1, eX10_sleeper_2, fx0, fx1, fx2, fx3, fx4, nl_int, nl_ref, nl_none, nl_ti, rz_nil, rz_int, rz_ref, rz_long, cf1, cf2, Option.toList_some, Option.toList_none, List.cons_append, List.nil_append]
    refine aC.of m_isSleeper ?_
    rw [k2, hv]
    exact hP
  rcases slp p hs8 with ⟨q, hq, rfl⟩ | ⟨z1, z2⟩
  · obtain ⟨o1, o2⟩ := slp1 hq hs8
    have hin : vp_in (nI q) 8 := vin (by omega) (by decide)
    have hcl : (nI q).toNatClampNeg = q := nic (by omega)
    rw [o1]
    simp only [eX9_sleeper_8, eX9_sleeper_11, eX9_sleeper_13, eX9_sleeper_14, eX9_sleeper_15, eX9_sleeper_18, eX9_sleeper_21, eX9_sleeper_22, eX9_sleeper_23, fx0, fx1, fx2, fx3, fx4, nl_int, nl_ref, nl_none, nl_ti, rz_nil, rz_int, rz_ref, rz_long, cf1, cf2, Option.toList_some, Option.toList_none, List.cons_append, List.nil_append, show ¬ (1 : Int32) = 0 by decide, if_false, hin, hcl, true_and]
    refine hm _ 1 o2 ?_
    simp only [eX10_sleeper_5, eX10_sleeper_8, eX10_sleeper_9, eX10_sleeper_12, eX10_sleeper_13, eX10_sleeper_14, eX10_sleeper_17, eX10_sleeper_19, fx0, fx1, fx2, fx3, fx4, nl_int, nl_ref, nl_none, nl_ti, rz_nil, rz_int, rz_ref, rz_long, cf1, cf2, Option.toList_some, Option.toList_none, List.cons_append, List.nil_append, show ¬ (1 : Int32) = 0 by decide, if_false, hin, hcl, true_and]
    exact ⟨⟨_, rfl, by rw [(hK.2.2.2.2.2 q hq).1]⟩, hI0⟩
  · rw [z1]
    simp only [eX9_sleeper_8, eX9_sleeper_11, eX9_sleeper_13, fx0, fx1, fx2, fx3, fx4, nl_int, nl_ref, nl_none, nl_ti, rz_nil, rz_int, rz_ref, rz_long, cf1, cf2, Option.toList_some, Option.toList_none, List.cons_append, List.nil_append, if_true]
    refine hm _ 0 z2 ?_
    simp only [eX10_sleeper_5, eX10_sleeper_8, eX10_sleeper_9, eX10_sleeper_12, eX10_sleeper_13, eX10_sleeper_14, eX10_sleeper_17, eX10_sleeper_19, fx0, fx1, fx2, fx3, fx4, nl_int, nl_ref, nl_none, nl_ti, rz_nil, rz_int, rz_ref, rz_long, cf1, cf2, Option.toList_some, Option.toList_none, List.cons_append, List.nil_append, if_true]
    exact ⟨⟨_, rfl, rfl⟩, hI0⟩
theorem op_seed (hI : Inv σ) (v : Int32) : Pair l (d + 30) 86 150 [.int v] σ := by
  have hI0 := hI
  obtain ⟨h, w, s, hK, ⟨hS, hR⟩, hH, hIm, hD, hE, hB, hT⟩ := hI
  refine aC_of rfl (Nat.le_of_ble_eq_true rfl) ?_
  show aE l (d + 29) none 9 cX9_seed (some .int) _ 0 [some (.ref 0), some (.int v), none] [] σ
  by_cases hv : 0 ≤ v
  · simp only [eX9_seed_0, eX9_seed_1, eX9_seed_4, eX9_seed_6, eX9_seed_7, eX9_seed_8, eX9_seed_11, eX9_seed_14, eX9_seed_15, eX9_seed_16, eX9_seed_19, eX9_seed_20, eX9_seed_23, eX9_seed_24, fx0, fx1, fx2, fx3, fx4, nl_int, nl_ref, nl_none, nl_ti, rz_nil, rz_int, rz_ref, rz_long, cf1, cf2, Option.toList_some, Option.toList_none, List.cons_append, List.nil_append, hv, if_true]
    refine aC_of rfl (Nat.le_of_ble_eq_true rfl) ?_
    show aE l (d + 29) none 10 cX10_seed (some .int) _ 0 [some (.ref 109), some (.int v), none] [] _
    simp only [eX10_seed_0, eX10_seed_1, eX10_seed_4, eX10_seed_6, eX10_seed_7, eX10_seed_8, eX10_seed_11, eX10_seed_12, eX10_seed_13, eX10_seed_14, eX10_seed_17, eX10_seed_18, fx0, fx1, fx2, fx3, fx4, nl_int, nl_ref, nl_none, nl_ti, rz_nil, rz_int, rz_ref, rz_long, cf1, cf2, Option.toList_some, Option.toList_none, List.cons_append, List.nil_append, su_at, su_ne, sr_eq, sr_ne, ne_eq, Nat.reduceEqDiff, not_false_eq_true, not_true_eq_false, if_true, if_false, hv]
    refine ⟨⟨_, rfl, by rw [hD.1]⟩, h, w, s, hK.congr (fun c h1 h2 => by simp only [su_ne (show c ≠ 90 by omega), sr_ne (show c ≠ 90 by omega), su_ne (show c ≠ 109 by omega), sr_ne (show c ≠ 109 by omega)]) (fun c h1 h2 => by simp only [su_ne (show c ≠ 90 by omega), sr_ne (show c ≠ 90 by omega), su_ne (show c ≠ 109 by omega), sr_ne (show c ≠ 109 by omega)]) (fun k hk => by simp only [su_at, su_ne, sr_eq, sr_ne, ne_eq, Nat.reduceEqDiff, not_false_eq_true, not_true_eq_false, if_true, if_false, show k ≠ 11 by omega]), ⟨?_, ?_⟩, hH.congr (fun c h1 h2 => by simp only [su_ne (show c ≠ 90 by omega), sr_ne (show c ≠ 90 by omega), su_ne (show c ≠ 109 by omega), sr_ne (show c ≠ 109 by omega)]) hK.1.2.2 (by simp only [su_at, su_ne, sr_eq, sr_ne, ne_eq, Nat.reduceEqDiff, not_false_eq_true, not_true_eq_false, if_true, if_false]) (by simp only [su_at, su_ne, sr_eq, sr_ne, ne_eq, Nat.reduceEqDiff, not_false_eq_true, not_true_eq_false, if_true, if_false]), hIm.congr (fun c h1 h2 => by simp only [su_ne (show c ≠ 90 by omega), sr_ne (show c ≠ 90 by omega), su_ne (show c ≠ 109 by omega), sr_ne (show c ≠ 109 by omega)]) (by simp only [su_at, su_ne, sr_eq, sr_ne, ne_eq, Nat.reduceEqDiff, not_false_eq_true, not_true_eq_false, if_true, if_false]) (by simp only [su_at, su_ne, sr_eq, sr_ne, ne_eq, Nat.reduceEqDiff, not_false_eq_true, not_true_eq_false, if_true, if_false]), ?_, hE.congr (fun c h1 h2 => by simp only [su_ne (show c ≠ 90 by omega), sr_ne (show c ≠ 90 by omega), su_ne (show c ≠ 109 by omega), sr_ne (show c ≠ 109 by omega)]) (by simp only [su_at, su_ne, sr_eq, sr_ne, ne_eq, Nat.reduceEqDiff, not_false_eq_true, not_true_eq_false, if_true, if_false]) (by simp only [su_at, su_ne, sr_eq, sr_ne, ne_eq, Nat.reduceEqDiff, not_false_eq_true, not_true_eq_false, if_true, if_false]) (by simp only [su_at, su_ne, sr_eq, sr_ne, ne_eq, Nat.reduceEqDiff, not_false_eq_true, not_true_eq_false, if_true, if_false]), hB.congr (fun c h1 h2 => by simp only [su_ne (show c ≠ 90 by omega), sr_ne (show c ≠ 90 by omega), su_ne (show c ≠ 109 by omega), sr_ne (show c ≠ 109 by omega)]) (by simp only [su_at, su_ne, sr_eq, sr_ne, ne_eq, Nat.reduceEqDiff, not_false_eq_true, not_true_eq_false, if_true, if_false]) (by simp only [su_at, su_ne, sr_eq, sr_ne, ne_eq, Nat.reduceEqDiff, not_false_eq_true, not_true_eq_false, if_true, if_false]) (by simp only [su_at, su_ne, sr_eq, sr_ne, ne_eq, Nat.reduceEqDiff, not_false_eq_true, not_true_eq_false, if_true, if_false]), hT.congr (by simp only [su_at, su_ne, sr_eq, sr_ne, ne_eq, Nat.reduceEqDiff, not_false_eq_true, not_true_eq_false, if_true, if_false]) (by simp only [su_at, su_ne, sr_eq, sr_ne, ne_eq, Nat.reduceEqDiff, not_false_eq_true, not_true_eq_false, if_true, if_false]) (by simp only [su_at, su_ne, sr_eq, sr_ne, ne_eq, Nat.reduceEqDiff, not_false_eq_true, not_true_eq_false, if_true, if_false]) (by simp only [su_at, su_ne, sr_eq, sr_ne, ne_eq, Nat.reduceEqDiff, not_false_eq_true, not_true_eq_false, if_true, if_false]) (by simp only [su_at, su_ne, sr_eq, sr_ne, ne_eq, Nat.reduceEqDiff, not_false_eq_true, not_true_eq_false, if_true, if_false])⟩
    · unfold StR at hS ⊢
      simp only [su_at, su_ne, sr_eq, sr_ne, ne_eq, Nat.reduceEqDiff, not_false_eq_true, not_true_eq_false, if_true, if_false]
      exact hS
    · simp only [su_at, su_ne, sr_eq, sr_ne, ne_eq, Nat.reduceEqDiff, not_false_eq_true, not_true_eq_false, if_true, if_false]
      exact hR
    · unfold SeedR
      simp only [su_at, su_ne, sr_eq, sr_ne, ne_eq, Nat.reduceEqDiff, not_false_eq_true, not_true_eq_false, if_true, if_false]
      exact ⟨trivial, Int32.not_lt.mpr hv⟩
  · simp only [eX9_seed_0, eX9_seed_1, eX9_seed_4, eX9_seed_6, eX9_seed_7, eX9_seed_8, eX9_seed_11, eX9_seed_14, eX9_seed_15, eX9_seed_16, eX9_seed_19, eX9_seed_20, eX9_seed_23, eX9_seed_24, fx0, fx1, fx2, fx3, fx4, nl_int, nl_ref, nl_none, nl_ti, rz_nil, rz_int, rz_ref, rz_long, cf1, cf2, Option.toList_some, Option.toList_none, List.cons_append, List.nil_append, hv, if_false]
    refine aC_of rfl (Nat.le_of_ble_eq_true rfl) ?_
    show aE l (d + 29) none 10 cX10_seed (some .int) _ 0 [some (.ref 109), some (.int v), none] [] _
    simp only [eX10_seed_0, eX10_seed_1, eX10_seed_4, eX10_seed_6, eX10_seed_7, eX10_seed_8, eX10_seed_11, eX10_seed_12, eX10_seed_13, eX10_seed_14, eX10_seed_17, eX10_seed_18, fx0, fx1, fx2, fx3, fx4, nl_int, nl_ref, nl_none, nl_ti, rz_nil, rz_int, rz_ref, rz_long, cf1, cf2, Option.toList_some, Option.toList_none, List.cons_append, List.nil_append, hv, if_false]
    exact ⟨⟨_, rfl, rfl⟩, hI0⟩
theorem op_tear (hI : Inv σ) : Pair l (d + 30) 84 148 [] σ := by
  obtain ⟨h, w, s, hK, ⟨hS, hR⟩, hH, hIm, hD, hE, hB, hT⟩ := hI
  obtain ⟨n, hn, e1, e2, e3⟩ := hE
  obtain ⟨n2, hn2, b1, b2, b3⟩ := hB
  refine aC_of rfl (Nat.le_of_ble_eq_true rfl) ?_
  show aE l (d + 29) none 9 cX9_tear (some .int) _ 0 [some (.ref 0), none] [] σ
  simp only [eX9_tear_0, eX9_tear_1, eX9_tear_4, eX9_tear_7, eX9_tear_8, eX9_tear_11, eX9_tear_14, eX9_tear_15, eX9_tear_16, eX9_tear_17, eX9_tear_20, fx0, fx1, fx2, fx3, fx4, nl_int, nl_ref, nl_none, nl_ti, rz_nil, rz_int, rz_ref, rz_long, cf1, cf2, Option.toList_some, Option.toList_none, List.cons_append, List.nil_append]
  refine aC.of c_clearSeen ?_
  simp only [eX9_tear_23, eX9_tear_24, eX9_tear_27, fx0, fx1, fx2, fx3, fx4, nl_int, nl_ref, nl_none, nl_ti, rz_nil, rz_int, rz_ref, rz_long, cf1, cf2, Option.toList_some, Option.toList_none, List.cons_append, List.nil_append]
  refine aC.of c_clearBook ?_
  simp only [eX9_tear_30, eX9_tear_31, fx0, fx1, fx2, fx3, fx4, nl_int, nl_ref, nl_none, nl_ti, rz_nil, rz_int, rz_ref, rz_long, cf1, cf2, Option.toList_some, Option.toList_none, List.cons_append, List.nil_append]
  refine aC_of rfl (Nat.le_of_ble_eq_true rfl) ?_
  show aE l (d + 29) none 10 cX10_tear (some .int) _ 0 [some (.ref 109), none] [] _
  simp only [eX10_tear_0, eX10_tear_1, eX10_tear_4, eX10_tear_5, eX10_tear_8, eX10_tear_9, eX10_tear_10, eX10_tear_11, eX10_tear_12, eX10_tear_15, eX10_tear_16, eX10_tear_17, eX10_tear_20, eX10_tear_21, fx0, fx1, fx2, fx3, fx4, nl_int, nl_ref, nl_none, nl_ti, rz_nil, rz_int, rz_ref, rz_long, cf1, cf2, Option.toList_some, Option.toList_none, List.cons_append, List.nil_append, su_at, su_ne, sr_eq, sr_ne, ne_eq, Nat.reduceEqDiff, not_false_eq_true, not_true_eq_false, if_true, if_false]
  refine ⟨⟨_, rfl, by rw [e1, e2, b1, b2]⟩, h, w, s, hK.congr (fun c h1 h2 => by simp only [su_ne (show c ≠ 103 by omega), sr_ne (show c ≠ 103 by omega), su_ne (show c ≠ 106 by omega), sr_ne (show c ≠ 106 by omega), su_ne (show c ≠ 109 by omega), sr_ne (show c ≠ 109 by omega)]) (fun c h1 h2 => by simp only [su_ne (show c ≠ 103 by omega), sr_ne (show c ≠ 103 by omega), su_ne (show c ≠ 106 by omega), sr_ne (show c ≠ 106 by omega), su_ne (show c ≠ 109 by omega), sr_ne (show c ≠ 109 by omega)]) (fun k hk => by simp only [su_at, su_ne, sr_eq, sr_ne, ne_eq, Nat.reduceEqDiff, not_false_eq_true, not_true_eq_false, if_true, if_false, show k ≠ 32 by omega, show k ≠ 35 by omega]), ⟨?_, ?_⟩, hH.congr (fun c h1 h2 => by simp only [su_ne (show c ≠ 103 by omega), sr_ne (show c ≠ 103 by omega), su_ne (show c ≠ 106 by omega), sr_ne (show c ≠ 106 by omega), su_ne (show c ≠ 109 by omega), sr_ne (show c ≠ 109 by omega)]) hK.1.2.2 (by simp only [su_at, su_ne, sr_eq, sr_ne, ne_eq, Nat.reduceEqDiff, not_false_eq_true, not_true_eq_false, if_true, if_false]) (by simp only [su_at, su_ne, sr_eq, sr_ne, ne_eq, Nat.reduceEqDiff, not_false_eq_true, not_true_eq_false, if_true, if_false]), hIm.congr (fun c h1 h2 => by simp only [su_ne (show c ≠ 103 by omega), sr_ne (show c ≠ 103 by omega), su_ne (show c ≠ 106 by omega), sr_ne (show c ≠ 106 by omega), su_ne (show c ≠ 109 by omega), sr_ne (show c ≠ 109 by omega)]) (by simp only [su_at, su_ne, sr_eq, sr_ne, ne_eq, Nat.reduceEqDiff, not_false_eq_true, not_true_eq_false, if_true, if_false]) (by simp only [su_at, su_ne, sr_eq, sr_ne, ne_eq, Nat.reduceEqDiff, not_false_eq_true, not_true_eq_false, if_true, if_false]), hD.congr (by simp only [su_at, su_ne, sr_eq, sr_ne, ne_eq, Nat.reduceEqDiff, not_false_eq_true, not_true_eq_false, if_true, if_false]) (by simp only [su_at, su_ne, sr_eq, sr_ne, ne_eq, Nat.reduceEqDiff, not_false_eq_true, not_true_eq_false, if_true, if_false]), ⟨0, by decide, ?_, ?_, fun j hj => by omega⟩, ⟨0, by decide, ?_, ?_, fun j hj => by omega⟩, hT.congr (by simp only [su_at, su_ne, sr_eq, sr_ne, ne_eq, Nat.reduceEqDiff, not_false_eq_true, not_true_eq_false, if_true, if_false]) (by simp only [su_at, su_ne, sr_eq, sr_ne, ne_eq, Nat.reduceEqDiff, not_false_eq_true, not_true_eq_false, if_true, if_false]) (by simp only [su_at, su_ne, sr_eq, sr_ne, ne_eq, Nat.reduceEqDiff, not_false_eq_true, not_true_eq_false, if_true, if_false]) (by simp only [su_at, su_ne, sr_eq, sr_ne, ne_eq, Nat.reduceEqDiff, not_false_eq_true, not_true_eq_false, if_true, if_false]) (by simp only [su_at, su_ne, sr_eq, sr_ne, ne_eq, Nat.reduceEqDiff, not_false_eq_true, not_true_eq_false, if_true, if_false])⟩
  · unfold StR at hS ⊢
    simp only [su_at, su_ne, sr_eq, sr_ne, ne_eq, Nat.reduceEqDiff, not_false_eq_true, not_true_eq_false, if_true, if_false]
    exact hS
  · simp only [su_at, su_ne, sr_eq, sr_ne, ne_eq, Nat.reduceEqDiff, not_false_eq_true, not_true_eq_false, if_true, if_false]
    exact hR
  · simp only [su_at, su_ne, sr_eq, sr_ne, ne_eq, Nat.reduceEqDiff, not_false_eq_true, not_true_eq_false, if_true, if_false]; rfl
  · simp only [su_at, su_ne, sr_eq, sr_ne, ne_eq, Nat.reduceEqDiff, not_false_eq_true, not_true_eq_false, if_true, if_false]; rfl
  · simp only [su_at, su_ne, sr_eq, sr_ne, ne_eq, Nat.reduceEqDiff, not_false_eq_true, not_true_eq_false, if_true, if_false]; rfl
  · simp only [su_at, su_ne, sr_eq, sr_ne, ne_eq, Nat.reduceEqDiff, not_false_eq_true, not_true_eq_false, if_true, if_false]; rfl
theorem op_see (hI : Inv σ) (p up : Int32) (hu : up = 0 ∨ up = 1) : Pair l (d + 30) 80 142 [.int p, .int up] σ := by
  have hI0 := hI
  obtain ⟨h, w, s, hK, ⟨hS, hR⟩, hH, hIm, hD, hE, hB, hT⟩ := hI
  have hs8 : s ≤ 8 := hK.2.1.2.2
  have k1 : σ 9 5 = nI s := hK.2.1.1
  have k2 : σ 109 8 = nI s := hK.2.1.2.1
  obtain ⟨n, hn, e1, e2, e3⟩ := hE
  have hz : vp_nar .boolean up = up := by rcases hu with rfl | rfl <;> decide +kernel
  refine aC_of rfl (Nat.le_of_ble_eq_true rfl) ?_
  show aE l (d + 29) none 9 cX9_see (some .int) _ 0 [some (.ref 0), some (.int p), some (.int up)] [] σ
  simp only [eX9_see_0, eX9_see_1, eX9_see_4, eX9_see_5, fx0, fx1, fx2, fx3, fx4, nl_int, nl_ref, nl_none, nl_ti, rz_nil, rz_int, rz_ref, rz_long, cf1, cf2, Option.toList_some, Option.toList_none, List.cons_append, List.nil_append]
  refine aC.of (c_hasSleeper (Or.inr rfl)) ?_
  rw [k1]
  have hm : ∀ (τ : aW) (P : Option Value → aW → Prop) (v : Int32), τ 109 8 = nI s → inB p.toInt64 0 (nI s - 1).toInt64 = v → aE l (d + 29) none 10 cX10_see (some .int) P 5 [some (.ref 109), some (.int p), some (.int up)] [.int v] τ → aC l (d + 30) 142 [.ref 109, .int p, .int up] τ P := by
    intro τ P v k2 hv hP
    refine aC_of rfl (Nat.le_of_ble_eq_true rfl) ?_
    show aE l (d + 29) none 10 cX10_see (some .int) _ 0 [some (.ref 109), some (.int p), some (.int up)] [] τ
    simp only [eX10_see_0, eX10_see_1, eX10_see_2, fx0, fx1, fx2, fx3, fx4, nl_int, nl_ref, nl_none, nl_ti, rz_nil, rz_int, rz_ref, rz_long, cf1, cf2, Option.toList_some, Option.toList_none, List.cons_append, List.nil_append]
    refine aC.of m_isSleeper ?_
    rw [k2, hv]
    exact hP
  rcases slp p hs8 with ⟨q, hq, rfl⟩ | ⟨z1, z2⟩
  · obtain ⟨o1, o2⟩ := slp1 hq hs8
    rw [o1]
    simp only [eX9_see_8, eX9_see_11, eX9_see_13, eX9_see_14, eX9_see_15, eX9_see_18, eX9_see_19, eX9_see_20, fx0, fx1, fx2, fx3, fx4, nl_int, nl_ref, nl_none, nl_ti, rz_nil, rz_int, rz_ref, rz_long, cf1, cf2, Option.toList_some, Option.toList_none, List.cons_append, List.nil_append, show ¬ (1 : Int32) = 0 by decide, if_false]
    by_cases h8 : n < 8
    · refine aC.of (c_appSeen e1 h8) ?_
      simp only [eX9_see_23, eX9_see_26, eX9_see_28, eX9_see_29, eX9_see_30, eX9_see_33, eX9_see_36, fx0, fx1, fx2, fx3, fx4, nl_int, nl_ref, nl_none, nl_ti, rz_nil, rz_int, rz_ref, rz_long, cf1, cf2, Option.toList_some, Option.toList_none, List.cons_append, List.nil_append, su_at, su_ne, sr_eq, sr_ne, ne_eq, Nat.reduceEqDiff, not_false_eq_true, not_true_eq_false, if_true, if_false, show ¬ (1 : Int32) = 0 by decide]
      refine hm _ _ 1 (by simp only [su_at, su_ne, sr_eq, sr_ne, ne_eq, Nat.reduceEqDiff, not_false_eq_true, not_true_eq_false, if_true, if_false]; exact k2) o2 ?_
      have hne : ¬ nI n = 8 := by rw [show (8 : Int32) = nI 8 from rfl, nieq (by omega) (by omega)]; omega
      have hin : vp_in (nI n) 8 := vin h8 (by decide)
      have hcl : (nI n).toNatClampNeg = n := nic (by omega)
      simp only [eX10_see_5, eX10_see_8, eX10_see_10, eX10_see_11, eX10_see_12, eX10_see_15, eX10_see_17, eX10_see_20, eX10_see_22, eX10_see_23, eX10_see_24, eX10_see_27, eX10_see_28, eX10_see_31, eX10_see_32, eX10_see_33, eX10_see_34, eX10_see_37, eX10_see_38, eX10_see_41, eX10_see_42, eX10_see_43, eX10_see_44, eX10_see_45, eX10_see_48, eX10_see_49, eX10_see_50, eX10_see_53, eX10_see_54, eX10_see_57, fx0, fx1, fx2, fx3, fx4, nl_int, nl_ref, nl_none, nl_ti, rz_nil, rz_int, rz_ref, rz_long, cf1, cf2, Option.toList_some, Option.toList_none, List.cons_append, List.nil_append, su_at, su_ne, sr_eq, sr_ne, ne_eq, Nat.reduceEqDiff, not_false_eq_true, not_true_eq_false, if_true, if_false, show ¬ (1 : Int32) = 0 by decide, e2, hne, hin, hcl, hz, nI_1, true_and]
      refine ⟨⟨_, rfl, rfl⟩, h, w, s, hK.congr (fun c h1 h2 => by simp only [su_ne (show c ≠ 103 by omega), sr_ne (show c ≠ 103 by omega), su_ne (show c ≠ 104 by omega), sr_ne (show c ≠ 104 by omega), su_ne (show c ≠ 105 by omega), sr_ne (show c ≠ 105 by omega), su_ne (show c ≠ 109 by omega), sr_ne (show c ≠ 109 by omega), su_ne (show c ≠ 126 by omega), sr_ne (show c ≠ 126 by omega), su_ne (show c ≠ 127 by omega), sr_ne (show c ≠ 127 by omega)]) (fun c h1 h2 => by simp only [su_ne (show c ≠ 103 by omega), sr_ne (show c ≠ 103 by omega), su_ne (show c ≠ 104 by omega), sr_ne (show c ≠ 104 by omega), su_ne (show c ≠ 105 by omega), sr_ne (show c ≠ 105 by omega), su_ne (show c ≠ 109 by omega), sr_ne (show c ≠ 109 by omega), su_ne (show c ≠ 126 by omega), sr_ne (show c ≠ 126 by omega), su_ne (show c ≠ 127 by omega), sr_ne (show c ≠ 127 by omega)]) (fun k hk => by simp only [su_at, su_ne, sr_eq, sr_ne, ne_eq, Nat.reduceEqDiff, not_false_eq_true, not_true_eq_false, if_true, if_false, show k ≠ 32 by omega]), ⟨?_, ?_⟩, hH.congr (fun c h1 h2 => by simp only [su_ne (show c ≠ 103 by omega), sr_ne (show c ≠ 103 by omega), su_ne (show c ≠ 104 by omega), sr_ne (show c ≠ 104 by omega), su_ne (show c ≠ 105 by omega), sr_ne (show c ≠ 105 by omega), su_ne (show c ≠ 109 by omega), sr_ne (show c ≠ 109 by omega), su_ne (show c ≠ 126 by omega), sr_ne (show c ≠ 126 by omega), su_ne (show c ≠ 127 by omega), sr_ne (show c ≠ 127 by omega)]) hK.1.2.2 (by simp only [su_at, su_ne, sr_eq, sr_ne, ne_eq, Nat.reduceEqDiff, not_false_eq_true, not_true_eq_false, if_true, if_false]) (by simp only [su_at, su_ne, sr_eq, sr_ne, ne_eq, Nat.reduceEqDiff, not_false_eq_true, not_true_eq_false, if_true, if_false]), hIm.congr (fun c h1 h2 => by simp only [su_ne (show c ≠ 103 by omega), sr_ne (show c ≠ 103 by omega), su_ne (show c ≠ 104 by omega), sr_ne (show c ≠ 104 by omega), su_ne (show c ≠ 105 by omega), sr_ne (show c ≠ 105 by omega), su_ne (show c ≠ 109 by omega), sr_ne (show c ≠ 109 by omega), su_ne (show c ≠ 126 by omega), sr_ne (show c ≠ 126 by omega), su_ne (show c ≠ 127 by omega), sr_ne (show c ≠ 127 by omega)]) (by simp only [su_at, su_ne, sr_eq, sr_ne, ne_eq, Nat.reduceEqDiff, not_false_eq_true, not_true_eq_false, if_true, if_false]) (by simp only [su_at, su_ne, sr_eq, sr_ne, ne_eq, Nat.reduceEqDiff, not_false_eq_true, not_true_eq_false, if_true, if_false]), hD.congr (by simp only [su_at, su_ne, sr_eq, sr_ne, ne_eq, Nat.reduceEqDiff, not_false_eq_true, not_true_eq_false, if_true, if_false]) (by simp only [su_at, su_ne, sr_eq, sr_ne, ne_eq, Nat.reduceEqDiff, not_false_eq_true, not_true_eq_false, if_true, if_false]), ⟨n + 1, by omega, ?_, ?_, fun j hj => ?_⟩, hB.congr (fun c h1 h2 => by simp only [su_ne (show c ≠ 103 by omega), sr_ne (show c ≠ 103 by omega), su_ne (show c ≠ 104 by omega), sr_ne (show c ≠ 104 by omega), su_ne (show c ≠ 105 by omega), sr_ne (show c ≠ 105 by omega), su_ne (show c ≠ 109 by omega), sr_ne (show c ≠ 109 by omega), su_ne (show c ≠ 126 by omega), sr_ne (show c ≠ 126 by omega), su_ne (show c ≠ 127 by omega), sr_ne (show c ≠ 127 by omega)]) (by simp only [su_at, su_ne, sr_eq, sr_ne, ne_eq, Nat.reduceEqDiff, not_false_eq_true, not_true_eq_false, if_true, if_false]) (by simp only [su_at, su_ne, sr_eq, sr_ne, ne_eq, Nat.reduceEqDiff, not_false_eq_true, not_true_eq_false, if_true, if_false]) (by simp only [su_at, su_ne, sr_eq, sr_ne, ne_eq, Nat.reduceEqDiff, not_false_eq_true, not_true_eq_false, if_true, if_false]), hT.congr (by simp only [su_at, su_ne, sr_eq, sr_ne, ne_eq, Nat.reduceEqDiff, not_false_eq_true, not_true_eq_false, if_true, if_false]) (by simp only [su_at, su_ne, sr_eq, sr_ne, ne_eq, Nat.reduceEqDiff, not_false_eq_true, not_true_eq_false, if_true, if_false]) (by simp only [su_at, su_ne, sr_eq, sr_ne, ne_eq, Nat.reduceEqDiff, not_false_eq_true, not_true_eq_false, if_true, if_false]) (by simp only [su_at, su_ne, sr_eq, sr_ne, ne_eq, Nat.reduceEqDiff, not_false_eq_true, not_true_eq_false, if_true, if_false]) (by simp only [su_at, su_ne, sr_eq, sr_ne, ne_eq, Nat.reduceEqDiff, not_false_eq_true, not_true_eq_false, if_true, if_false])⟩
      · unfold StR at hS ⊢
        simp only [su_at, su_ne, sr_eq, sr_ne, ne_eq, Nat.reduceEqDiff, not_false_eq_true, not_true_eq_false, if_true, if_false]
        exact hS
      · simp only [su_at, su_ne, sr_eq, sr_ne, ne_eq, Nat.reduceEqDiff, not_false_eq_true, not_true_eq_false, if_true, if_false]
        exact hR
      · simp only [su_at, su_ne, sr_eq, sr_ne, ne_eq, Nat.reduceEqDiff, not_false_eq_true, not_true_eq_false, if_true, if_false]
      · simp only [su_at, su_ne, sr_eq, sr_ne, ne_eq, Nat.reduceEqDiff, not_false_eq_true, not_true_eq_false, if_true, if_false]
      · simp only [su_at, su_ne, sr_eq, sr_ne, ne_eq, Nat.reduceEqDiff, not_false_eq_true, not_true_eq_false, if_true, if_false]
        by_cases hjn : j = n
        · simp only [hjn, if_true]
          exact ⟨trivial, ⟨q, hq, rfl⟩, trivial, hu⟩
        · simp only [hjn, if_false]
          exact e3 j (by omega)
    · have hn8 : n = 8 := by omega
      subst hn8
      refine aC.of (c_appSeenFull e1) ?_
      simp only [eX9_see_23, eX9_see_26, eX9_see_28, fx0, fx1, fx2, fx3, fx4, nl_int, nl_ref, nl_none, nl_ti, rz_nil, rz_int, rz_ref, rz_long, cf1, cf2, Option.toList_some, Option.toList_none, List.cons_append, List.nil_append, if_true]
      refine hm _ _ 1 k2 o2 ?_
      simp only [eX10_see_5, eX10_see_8, eX10_see_10, eX10_see_11, eX10_see_12, eX10_see_15, eX10_see_17, eX10_see_20, eX10_see_22, fx0, fx1, fx2, fx3, fx4, nl_int, nl_ref, nl_none, nl_ti, rz_nil, rz_int, rz_ref, rz_long, cf1, cf2, Option.toList_some, Option.toList_none, List.cons_append, List.nil_append, show ¬ (1 : Int32) = 0 by decide, if_false, e2, show nI 8 = 8 from rfl, if_true]
      exact ⟨⟨_, rfl, rfl⟩, hI0⟩
  · rw [z1]
    simp only [eX9_see_8, eX9_see_11, eX9_see_13, fx0, fx1, fx2, fx3, fx4, nl_int, nl_ref, nl_none, nl_ti, rz_nil, rz_int, rz_ref, rz_long, cf1, cf2, Option.toList_some, Option.toList_none, List.cons_append, List.nil_append, if_true]
    refine hm _ _ 0 k2 z2 ?_
    simp only [eX10_see_5, eX10_see_8, eX10_see_10, fx0, fx1, fx2, fx3, fx4, nl_int, nl_ref, nl_none, nl_ti, rz_nil, rz_int, rz_ref, rz_long, cf1, cf2, Option.toList_some, Option.toList_none, List.cons_append, List.nil_append, if_true]
    exact ⟨⟨_, rfl, rfl⟩, hI0⟩
theorem op_write (hI : Inv σ) (p t : Int32) : Pair l (d + 30) 83 147 [.int p, .int t] σ := by
  have hI0 := hI
  obtain ⟨h, w, s, hK, ⟨hS, hR⟩, hH, hIm, hD, hE, hB, hT⟩ := hI
  have hw6 : w ≤ 6 := hK.1.2.2
  have k1 : σ 9 4 = nI w := hK.1.1
  have k2 : σ 109 4 = nI w := hK.1.2.1
  obtain ⟨n, hn, e1, e2, e3⟩ := hB
  refine aC_of rfl (Nat.le_of_ble_eq_true rfl) ?_
  show aE l (d + 29) none 9 cX9_write (some .int) _ 0 [some (.ref 0), some (.int p), some (.int t)] [] σ
  simp only [eX9_write_0, eX9_write_1, eX9_write_4, eX9_write_5, fx0, fx1, fx2, fx3, fx4, nl_int, nl_ref, nl_none, nl_ti, rz_nil, rz_int, rz_ref, rz_long, cf1, cf2, Option.toList_some, Option.toList_none, List.cons_append, List.nil_append]
  refine aC.of (c_hasWatcher (Or.inr rfl)) ?_
  rw [k1]
  have hm : ∀ (τ : aW) (P : Option Value → aW → Prop) (v : Int32), τ 109 4 = nI w → inB p.toInt64 0 (nI w - 1).toInt64 = v → aE l (d + 29) none 10 cX10_write (some .int) P 5 [some (.ref 109), some (.int p), some (.int t)] [.int v] τ → aC l (d + 30) 147 [.ref 109, .int p, .int t] τ P := by
    intro τ P v k2 hv hP
    refine aC_of rfl (Nat.le_of_ble_eq_true rfl) ?_
    show aE l (d + 29) none 10 cX10_write (some .int) _ 0 [some (.ref 109), some (.int p), some (.int t)] [] τ
    simp only [eX10_write_0, eX10_write_1, eX10_write_2, fx0, fx1, fx2, fx3, fx4, nl_int, nl_ref, nl_none, nl_ti, rz_nil, rz_int, rz_ref, rz_long, cf1, cf2, Option.toList_some, Option.toList_none, List.cons_append, List.nil_append]
    refine aC.of m_isWatcher ?_
    rw [k2, hv]
    exact hP
  have h199 : (199 : Int64) = (nI 199).toInt64 := by decide
  rcases wat p hw6 with ⟨q, hq, rfl⟩ | ⟨z1, z2⟩
  · obtain ⟨o1, o2⟩ := wat1 hq hw6
    rw [o1]
    simp only [eX9_write_8, eX9_write_11, eX9_write_13, eX9_write_14, fx0, fx1, fx2, fx3, fx4, nl_int, nl_ref, nl_none, nl_ti, rz_nil, rz_int, rz_ref, rz_long, cf1, cf2, Option.toList_some, Option.toList_none, List.cons_append, List.nil_append, show ¬ (1 : Int32) = 0 by decide, if_false]
    rcases rgc t (N := 199) (by decide) with ⟨tn, ht, rfl⟩ | ⟨r1, r2⟩
    · obtain ⟨r1, r2, r3⟩ := rgc1 ht (by decide)
      have r2 : nI tn ≤ 199 := r2
      simp only [eX9_write_15, eX9_write_18, eX9_write_19, eX9_write_22, eX9_write_25, eX9_write_27, eX9_write_28, eX9_write_29, eX9_write_32, eX9_write_33, eX9_write_34, fx0, fx1, fx2, fx3, fx4, nl_int, nl_ref, nl_none, nl_ti, rz_nil, rz_int, rz_ref, rz_long, cf1, cf2, Option.toList_some, Option.toList_none, List.cons_append, List.nil_append, r1, r2, if_false, if_true]
      by_cases h8 : n < 15
      · refine aC.of (c_appBook e1 h8) ?_
        simp only [eX9_write_37, eX9_write_40, eX9_write_42, eX9_write_43, eX9_write_44, eX9_write_47, eX9_write_50, fx0, fx1, fx2, fx3, fx4, nl_int, nl_ref, nl_none, nl_ti, rz_nil, rz_int, rz_ref, rz_long, cf1, cf2, Option.toList_some, Option.toList_none, List.cons_append, List.nil_append, su_at, su_ne, sr_eq, sr_ne, ne_eq, Nat.reduceEqDiff, not_false_eq_true, not_true_eq_false, if_true, if_false, show ¬ (1 : Int32) = 0 by decide]
        refine hm _ _ 1 (by simp only [su_at, su_ne, sr_eq, sr_ne, ne_eq, Nat.reduceEqDiff, not_false_eq_true, not_true_eq_false, if_true, if_false]; exact k2) o2 ?_
        simp only [eX10_write_5, eX10_write_8, eX10_write_10, eX10_write_11, eX10_write_12, eX10_write_13, eX10_write_14, eX10_write_17, fx0, fx1, fx2, fx3, fx4, nl_int, nl_ref, nl_none, nl_ti, rz_nil, rz_int, rz_ref, rz_long, cf1, cf2, Option.toList_some, Option.toList_none, List.cons_append, List.nil_append, show ¬ (1 : Int32) = 0 by decide, if_false]
        refine aC.of m_in ?_
        have hne : ¬ nI n = 15 := by rw [show (15 : Int32) = nI 15 from rfl, nieq (by omega) (by omega)]; omega
        have hin : vp_in (nI n) 15 := vin h8 (by decide)
        have hcl : (nI n).toNatClampNeg = n := nic (by omega)
        rw [h199, r3]
        simp only [eX10_write_20, eX10_write_23, eX10_write_25, eX10_write_26, eX10_write_27, eX10_write_30, eX10_write_32, eX10_write_35, eX10_write_37, eX10_write_38, eX10_write_39, eX10_write_42, eX10_write_43, eX10_write_46, eX10_write_47, eX10_write_48, eX10_write_49, eX10_write_52, eX10_write_53, eX10_write_56, eX10_write_57, eX10_write_58, eX10_write_59, eX10_write_60, eX10_write_63, eX10_write_64, eX10_write_65, eX10_write_68, eX10_write_69, eX10_write_72, fx0, fx1, fx2, fx3, fx4, nl_int, nl_ref, nl_none, nl_ti, rz_nil, rz_int, rz_ref, rz_long, cf1, cf2, Option.toList_some, Option.toList_none, List.cons_append, List.nil_append, su_at, su_ne, sr_eq, sr_ne, ne_eq, Nat.reduceEqDiff, not_false_eq_true, not_true_eq_false, if_true, if_false, show ¬ (1 : Int32) = 0 by decide, e2, hne, hin, hcl, nI_1, true_and]
        refine ⟨⟨_, rfl, rfl⟩, h, w, s, hK.congr (fun c h1 h2 => by simp only [su_ne (show c ≠ 106 by omega), sr_ne (show c ≠ 106 by omega), su_ne (show c ≠ 107 by omega), sr_ne (show c ≠ 107 by omega), su_ne (show c ≠ 108 by omega), sr_ne (show c ≠ 108 by omega), su_ne (show c ≠ 109 by omega), sr_ne (show c ≠ 109 by omega), su_ne (show c ≠ 128 by omega), sr_ne (show c ≠ 128 by omega), su_ne (show c ≠ 129 by omega), sr_ne (show c ≠ 129 by omega)]) (fun c h1 h2 => by simp only [su_ne (show c ≠ 106 by omega), sr_ne (show c ≠ 106 by omega), su_ne (show c ≠ 107 by omega), sr_ne (show c ≠ 107 by omega), su_ne (show c ≠ 108 by omega), sr_ne (show c ≠ 108 by omega), su_ne (show c ≠ 109 by omega), sr_ne (show c ≠ 109 by omega), su_ne (show c ≠ 128 by omega), sr_ne (show c ≠ 128 by omega), su_ne (show c ≠ 129 by omega), sr_ne (show c ≠ 129 by omega)]) (fun k hk => by simp only [su_at, su_ne, sr_eq, sr_ne, ne_eq, Nat.reduceEqDiff, not_false_eq_true, not_true_eq_false, if_true, if_false, show k ≠ 35 by omega]), ⟨?_, ?_⟩, hH.congr (fun c h1 h2 => by simp only [su_ne (show c ≠ 106 by omega), sr_ne (show c ≠ 106 by omega), su_ne (show c ≠ 107 by omega), sr_ne (show c ≠ 107 by omega), su_ne (show c ≠ 108 by omega), sr_ne (show c ≠ 108 by omega), su_ne (show c ≠ 109 by omega), sr_ne (show c ≠ 109 by omega), su_ne (show c ≠ 128 by omega), sr_ne (show c ≠ 128 by omega), su_ne (show c ≠ 129 by omega), sr_ne (show c ≠ 129 by omega)]) hK.1.2.2 (by simp only [su_at, su_ne, sr_eq, sr_ne, ne_eq, Nat.reduceEqDiff, not_false_eq_true, not_true_eq_false, if_true, if_false]) (by simp only [su_at, su_ne, sr_eq, sr_ne, ne_eq, Nat.reduceEqDiff, not_false_eq_true, not_true_eq_false, if_true, if_false]), hIm.congr (fun c h1 h2 => by simp only [su_ne (show c ≠ 106 by omega), sr_ne (show c ≠ 106 by omega), su_ne (show c ≠ 107 by omega), sr_ne (show c ≠ 107 by omega), su_ne (show c ≠ 108 by omega), sr_ne (show c ≠ 108 by omega), su_ne (show c ≠ 109 by omega), sr_ne (show c ≠ 109 by omega), su_ne (show c ≠ 128 by omega), sr_ne (show c ≠ 128 by omega), su_ne (show c ≠ 129 by omega), sr_ne (show c ≠ 129 by omega)]) (by simp only [su_at, su_ne, sr_eq, sr_ne, ne_eq, Nat.reduceEqDiff, not_false_eq_true, not_true_eq_false, if_true, if_false]) (by simp only [su_at, su_ne, sr_eq, sr_ne, ne_eq, Nat.reduceEqDiff, not_false_eq_true, not_true_eq_false, if_true, if_false]), hD.congr (by simp only [su_at, su_ne, sr_eq, sr_ne, ne_eq, Nat.reduceEqDiff, not_false_eq_true, not_true_eq_false, if_true, if_false]) (by simp only [su_at, su_ne, sr_eq, sr_ne, ne_eq, Nat.reduceEqDiff, not_false_eq_true, not_true_eq_false, if_true, if_false]), hE.congr (fun c h1 h2 => by simp only [su_ne (show c ≠ 106 by omega), sr_ne (show c ≠ 106 by omega), su_ne (show c ≠ 107 by omega), sr_ne (show c ≠ 107 by omega), su_ne (show c ≠ 108 by omega), sr_ne (show c ≠ 108 by omega), su_ne (show c ≠ 109 by omega), sr_ne (show c ≠ 109 by omega), su_ne (show c ≠ 128 by omega), sr_ne (show c ≠ 128 by omega), su_ne (show c ≠ 129 by omega), sr_ne (show c ≠ 129 by omega)]) (by simp only [su_at, su_ne, sr_eq, sr_ne, ne_eq, Nat.reduceEqDiff, not_false_eq_true, not_true_eq_false, if_true, if_false]) (by simp only [su_at, su_ne, sr_eq, sr_ne, ne_eq, Nat.reduceEqDiff, not_false_eq_true, not_true_eq_false, if_true, if_false]) (by simp only [su_at, su_ne, sr_eq, sr_ne, ne_eq, Nat.reduceEqDiff, not_false_eq_true, not_true_eq_false, if_true, if_false]), ⟨n + 1, by omega, ?_, ?_, fun j hj => ?_⟩, hT.congr (by simp only [su_at, su_ne, sr_eq, sr_ne, ne_eq, Nat.reduceEqDiff, not_false_eq_true, not_true_eq_false, if_true, if_false]) (by simp only [su_at, su_ne, sr_eq, sr_ne, ne_eq, Nat.reduceEqDiff, not_false_eq_true, not_true_eq_false, if_true, if_false]) (by simp only [su_at, su_ne, sr_eq, sr_ne, ne_eq, Nat.reduceEqDiff, not_false_eq_true, not_true_eq_false, if_true, if_false]) (by simp only [su_at, su_ne, sr_eq, sr_ne, ne_eq, Nat.reduceEqDiff, not_false_eq_true, not_true_eq_false, if_true, if_false]) (by simp only [su_at, su_ne, sr_eq, sr_ne, ne_eq, Nat.reduceEqDiff, not_false_eq_true, not_true_eq_false, if_true, if_false])⟩
        · unfold StR at hS ⊢
          simp only [su_at, su_ne, sr_eq, sr_ne, ne_eq, Nat.reduceEqDiff, not_false_eq_true, not_true_eq_false, if_true, if_false]
          exact hS
        · simp only [su_at, su_ne, sr_eq, sr_ne, ne_eq, Nat.reduceEqDiff, not_false_eq_true, not_true_eq_false, if_true, if_false]
          exact hR
        · simp only [su_at, su_ne, sr_eq, sr_ne, ne_eq, Nat.reduceEqDiff, not_false_eq_true, not_true_eq_false, if_true, if_false]
        · simp only [su_at, su_ne, sr_eq, sr_ne, ne_eq, Nat.reduceEqDiff, not_false_eq_true, not_true_eq_false, if_true, if_false]
        · simp only [su_at, su_ne, sr_eq, sr_ne, ne_eq, Nat.reduceEqDiff, not_false_eq_true, not_true_eq_false, if_true, if_false]
          by_cases hjn : j = n
          · simp only [hjn, if_true]
            exact ⟨trivial, ⟨q, hq, rfl⟩, trivial⟩
          · simp only [hjn, if_false]
            exact e3 j (by omega)
      · have hn8 : n = 15 := by omega
        subst hn8
        refine aC.of (c_appBookFull e1) ?_
        simp only [eX9_write_37, eX9_write_40, eX9_write_42, fx0, fx1, fx2, fx3, fx4, nl_int, nl_ref, nl_none, nl_ti, rz_nil, rz_int, rz_ref, rz_long, cf1, cf2, Option.toList_some, Option.toList_none, List.cons_append, List.nil_append, if_true]
        refine hm _ _ 1 k2 o2 ?_
        simp only [eX10_write_5, eX10_write_8, eX10_write_10, eX10_write_11, eX10_write_12, eX10_write_13, eX10_write_14, eX10_write_17, fx0, fx1, fx2, fx3, fx4, nl_int, nl_ref, nl_none, nl_ti, rz_nil, rz_int, rz_ref, rz_long, cf1, cf2, Option.toList_some, Option.toList_none, List.cons_append, List.nil_append, show ¬ (1 : Int32) = 0 by decide, if_false]
        refine aC.of m_in ?_
        rw [h199, r3]
        simp only [eX10_write_20, eX10_write_23, eX10_write_25, eX10_write_26, eX10_write_27, eX10_write_30, eX10_write_32, eX10_write_35, eX10_write_37, fx0, fx1, fx2, fx3, fx4, nl_int, nl_ref, nl_none, nl_ti, rz_nil, rz_int, rz_ref, rz_long, cf1, cf2, Option.toList_some, Option.toList_none, List.cons_append, List.nil_append, show ¬ (1 : Int32) = 0 by decide, if_false, e2, show nI 15 = 15 from rfl, if_true]
        exact ⟨⟨_, rfl, rfl⟩, hI0⟩
    · have hcls : ∀ P : Prop, (P → aE l (d + 29) none 9 cX9_write (some .int) (fun r σ1 => aC l (d + 30) 147 [Value.ref 109, .int (nI q), .int t] σ1 (fun r2 σ2 => (∃ v : Int32, r = some (.int v) ∧ r2 = some (.int v)) ∧ Inv σ2)) 25 [some (.ref 0), some (.int (nI q)), some (.int t)] [] σ) → P → aE l (d + 29) none 9 cX9_write (some .int) (fun r σ1 => aC l (d + 30) 147 [Value.ref 109, .int (nI q), .int t] σ1 (fun r2 σ2 => (∃ v : Int32, r = some (.int v) ∧ r2 = some (.int v)) ∧ Inv σ2)) 15 [some (.ref 0), some (.int (nI q)), some (.int t)] [.int t] σ := by
        intro P hP hp
        rcases r1 with r1 | ⟨r1, r1b⟩
        · simp only [eX9_write_15, r1, if_true]
          exact hP hp
        · have r1b : ¬ t ≤ 199 := r1b
          simp only [eX9_write_15, eX9_write_18, eX9_write_19, eX9_write_22, fx0, fx1, fx2, fx3, fx4, nl_int, nl_ref, nl_none, nl_ti, rz_nil, rz_int, rz_ref, rz_long, cf1, cf2, Option.toList_some, Option.toList_none, List.cons_append, List.nil_append, r1, r1b, if_false]
          exact hP hp
      refine hcls True (fun _ => ?_) trivial
      simp only [eX9_write_25, eX9_write_27, fx0, fx1, fx2, fx3, fx4, nl_int, nl_ref, nl_none, nl_ti, rz_nil, rz_int, rz_ref, rz_long, cf1, cf2, Option.toList_some, Option.toList_none, List.cons_append, List.nil_append]
      refine hm _ _ 1 k2 o2 ?_
      simp only [eX10_write_5, eX10_write_8, eX10_write_10, eX10_write_11, eX10_write_12, eX10_write_13, eX10_write_14, eX10_write_17, fx0, fx1, fx2, fx3, fx4, nl_int, nl_ref, nl_none, nl_ti, rz_nil, rz_int, rz_ref, rz_long, cf1, cf2, Option.toList_some, Option.toList_none, List.cons_append, List.nil_append, show ¬ (1 : Int32) = 0 by decide, if_false]
      refine aC.of m_in ?_
      rw [h199, r2]
      simp only [eX10_write_20, eX10_write_23, eX10_write_25, fx0, fx1, fx2, fx3, fx4, nl_int, nl_ref, nl_none, nl_ti, rz_nil, rz_int, rz_ref, rz_long, cf1, cf2, Option.toList_some, Option.toList_none, List.cons_append, List.nil_append, if_true]
      exact ⟨⟨_, rfl, rfl⟩, hI0⟩
  · rw [z1]
    simp only [eX9_write_8, eX9_write_11, eX9_write_13, fx0, fx1, fx2, fx3, fx4, nl_int, nl_ref, nl_none, nl_ti, rz_nil, rz_int, rz_ref, rz_long, cf1, cf2, Option.toList_some, Option.toList_none, List.cons_append, List.nil_append, if_true]
    refine hm _ _ 0 k2 z2 ?_
    simp only [eX10_write_5, eX10_write_8, eX10_write_10, fx0, fx1, fx2, fx3, fx4, nl_int, nl_ref, nl_none, nl_ti, rz_nil, rz_int, rz_ref, rz_long, cf1, cf2, Option.toList_some, Option.toList_none, List.cons_append, List.nil_append, if_true]
    exact ⟨⟨_, rfl, rfl⟩, hI0⟩
end O3
