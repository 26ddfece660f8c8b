/-! nodded, askNext: both sides -/
section O10
variable {l : Launch} {d : Nat} {σ : aW}
theorem seen_both {h w s : Nat} (hK : KR h w s σ) (hE : SeenR s σ) : ∃ n, SC σ n s (fun j => σ 113 (σ 126 j).toNatClampNeg) (σ 127) ∧ SM σ n (fun j => σ 113 (σ 126 j).toNatClampNeg) (σ 127) := by
  obtain ⟨n, hn, e1, e2, e3⟩ := hE
  obtain ⟨-, ⟨k3, k4, hs8⟩, -, -, -, k6⟩ := hK
  refine ⟨n, ⟨e1, hn, k3, hs8, fun j hj => ?_, fun j hj => (e3 j hj).2.2.1⟩, ⟨e2, hn, fun j hj => ?_, fun j _ => rfl⟩⟩
  · obtain ⟨a, ⟨q, hq, b⟩, -⟩ := e3 j hj
    refine ⟨q, hq, b, ?_⟩
    show σ 14 q = σ 113 (σ 126 j).toNatClampNeg
    rw [← a, b, nic (by omega)]
    exact (k6 q hq).1
  · obtain ⟨a, ⟨q, hq, b⟩, -⟩ := e3 j hj
    refine ⟨q, by omega, by rw [← a, b], ?_⟩
    show σ 113 q = σ 113 (σ 126 j).toNatClampNeg
    rw [← a, b, nic (by omega)]
theorem op_nodded (hI : Inv σ) (x i : Int32) : Pair l (d + 30) 81 145 [.int x, .int i] σ := by
  have hI0 := hI
  obtain ⟨h, w, s, hK, ⟨hS, hR⟩, hH, hIm, hD, hE, hB, hT⟩ := hI
  have hw6 : w ≤ 6 := hK.1.2.2
  have k1 : σ 9 4 = nI w := hK.1.1
  have k2 : σ 109 4 = nI w := hK.1.2.1
  have hp : 2 ^ w ≤ 2 ^ 6 := Nat.pow_le_pow_right (by decide) hw6
  refine aC_of rfl (Nat.le_of_ble_eq_true rfl) ?_
  show aE l (d + 29) none 9 cX9_nodded (some .int) _ 0 [some (.ref 0), some (.int x), some (.int i)] [] σ
  simp only [eX9_nodded_0, eX9_nodded_1, eX9_nodded_4, eX9_nodded_5, fx0, fx1, fx2, fx3, fx4, nl_int, nl_ref, nl_none, nl_ti, rz_nil, rz_int, rz_ref, rz_long, cf1, cf2, Option.toList_some, Option.toList_none, List.cons_append, List.nil_append]
  refine aC.of (c_hasAll (Or.inr rfl)) ?_
  rw [k1]
  have hm : ∀ (P : Option Value → aW → Prop) (v : Int32), inB x.toInt64 0 ((1 : Int32) <<< (nI w &&& 31) - 1).toInt64 = v → aE l (d + 29) none 10 cX10_nodded (some .int) P 5 [some (.ref 109), some (.int x), some (.int i), none, none, none] [.int v] σ → aC l (d + 30) 145 [.ref 109, .int x, .int i] σ P := by
    intro P v hv hP
    refine aC_of rfl (Nat.le_of_ble_eq_true rfl) ?_
    show aE l (d + 29) none 10 cX10_nodded (some .int) _ 0 [some (.ref 109), some (.int x), some (.int i), none, none, none] [] σ
    simp only [eX10_nodded_0, eX10_nodded_1, eX10_nodded_2, fx0, fx1, fx2, fx3, fx4, nl_int, nl_ref, nl_none, nl_ti, rz_nil, rz_int, rz_ref, rz_long, cf1, cf2, Option.toList_some, Option.toList_none, List.cons_append, List.nil_append]
    refine aC.of m_isSet ?_
    rw [k2, hv]
    exact hP
  rcases setc x hw6 with ⟨m, hm2, rfl⟩ | ⟨z1, z2⟩
  · obtain ⟨o1, o2⟩ := setc1 hw6 hm2
    rw [if_pos o1]
    obtain ⟨n, hc, hmm⟩ := seen_both hK hE
    have hover : ∀ k, m + 1 ≤ k → k < m + 1 + (2 ^ w - (m + 1)) → (fun k => ft (fun j => σ 113 (σ 126 j).toNatClampNeg) (σ 127) (nI m) (nI k) n) k = false := fun k h1 h2 => ft_over (by omega) (by omega) n
    have hN : m + 1 + (2 ^ w - (m + 1)) = 2 ^ w := by omega
    have ect := cnt_tail (P := fun k => ft (fun j => σ 113 (σ 126 j).toNatClampNeg) (σ 127) (nI m) (nI k) n) (2 ^ w - (m + 1)) hover
    rw [hN] at ect
    simp only [eX9_nodded_8, eX9_nodded_11, eX9_nodded_13, eX9_nodded_14, eX9_nodded_15, fx0, fx1, fx2, fx3, fx4, nl_int, nl_ref, nl_none, nl_ti, rz_nil, rz_int, rz_ref, rz_long, cf1, cf2, Option.toList_some, Option.toList_none, List.cons_append, List.nil_append, show ¬ (1 : Int32) = 0 by decide, if_false]
    have hmz : ∀ (P : Option Value → aW → Prop), ¬ i = -2 → (match zs (rR (fun k => ft (fun j => σ 113 (σ 126 j).toNatClampNeg) (σ 127) (nI m) (nI k) n)) i (2 ^ w) (w + 1) 0 0 with
      | .inl k' => P (some (.int (nI k'))) σ
      | .inr c' => P (some (.int (if i = -1 then nI c' else -1))) σ) → aC l (d + 30) 145 [.ref 109, .int (nI m), .int i] σ P := by
      intro P hi2 hP
      refine hm _ 1 o2 ?_
      simp only [eX10_nodded_5, eX10_nodded_8, eX10_nodded_10, eX10_nodded_11, eX10_nodded_12, eX10_nodded_14, eX10_nodded_17, eX10_nodded_18, eX10_nodded_19, eX10_nodded_22, eX10_nodded_23, eX10_nodded_24, eX10_nodded_25, eX10_nodded_26, fx0, fx1, fx2, fx3, fx4, nl_int, nl_ref, nl_none, nl_ti, rz_nil, rz_int, rz_ref, rz_long, cf1, cf2, Option.toList_some, Option.toList_none, List.cons_append, List.nil_append, show ¬ (1 : Int32) = 0 by decide, if_false, hi2]
      exact zs_m (d := d + 26) hmm k2 hw6 (w + 1) 0 0 none (by omega) hP
    by_cases i1 : i = -1
    · subst i1
      simp only [eX9_nodded_16, eX9_nodded_19, eX9_nodded_20, eX9_nodded_23, eX9_nodded_24, eX9_nodded_27, eX9_nodded_28, fx0, fx1, fx2, fx3, fx4, nl_int, nl_ref, nl_none, nl_ti, rz_nil, rz_int, rz_ref, rz_long, cf1, cf2, Option.toList_some, Option.toList_none, List.cons_append, List.nil_append, if_true]
      refine aC.of (c_count hc (by omega)) ?_
      simp only [eX9_nodded_31, fx0, fx1, fx2, fx3, fx4, nl_int, nl_ref, nl_none, nl_ti, rz_nil, rz_int, rz_ref, rz_long, cf1, cf2, Option.toList_some, Option.toList_none, List.cons_append, List.nil_append]
      refine hmz _ (by decide) ?_
      obtain ⟨c', h1, h2⟩ := zs_neg (R := rR (fun k => ft (fun j => σ 113 (σ 126 j).toNatClampNeg) (σ 127) (nI m) (nI k) n)) (i := -1) (N := 2 ^ w) (by decide) (by omega) (w + 1) 0 0 (by omega)
      rw [h1]
      rw [rR_sum (Z := 0 + (w + 1)) (by omega) (2 ^ w) (fun k hk => by rw [Nat.zero_add]; exact bcw w hw6 k hk), ect] at h2
      have h3 : c' = cnt (fun k => ft (fun j => σ 113 (σ 126 j).toNatClampNeg) (σ 127) (nI m) (nI k) n) (m + 1) := by
        have : sm (fun z => cnt (rR (fun k => ft (fun j => σ 113 (σ 126 j).toNatClampNeg) (σ 127) (nI m) (nI k) n) z) (2 ^ w)) 0 = 0 := rfl
        omega
      show (∃ v : Int32, _ ∧ some (Value.int (if (-1 : Int32) = -1 then nI c' else -1)) = some (.int v)) ∧ Inv σ
      rw [if_pos rfl, h3]
      exact ⟨⟨_, rfl, rfl⟩, hI0⟩
    by_cases i2 : i = -2
    · subst i2
      simp only [eX9_nodded_16, eX9_nodded_32, eX9_nodded_33, eX9_nodded_35, eX9_nodded_38, eX9_nodded_39, eX9_nodded_42, eX9_nodded_43, eX9_nodded_46, eX9_nodded_47, fx0, fx1, fx2, fx3, fx4, nl_int, nl_ref, nl_none, nl_ti, rz_nil, rz_int, rz_ref, rz_long, cf1, cf2, Option.toList_some, Option.toList_none, List.cons_append, List.nil_append, if_true, i1, if_false]
      refine aC.of (c_inAll hc (by omega)) ?_
      simp only [eX9_nodded_50, fx0, fx1, fx2, fx3, fx4, nl_int, nl_ref, nl_none, nl_ti, rz_nil, rz_int, rz_ref, rz_long, cf1, cf2, Option.toList_some, Option.toList_none, List.cons_append, List.nil_append]
      refine hm _ 1 o2 ?_
      simp only [eX10_nodded_5, eX10_nodded_8, eX10_nodded_10, eX10_nodded_11, eX10_nodded_12, eX10_nodded_14, eX10_nodded_17, eX10_nodded_18, eX10_nodded_19, fx0, fx1, fx2, fx3, fx4, nl_int, nl_ref, nl_none, nl_ti, rz_nil, rz_int, rz_ref, rz_long, cf1, cf2, Option.toList_some, Option.toList_none, List.cons_append, List.nil_append, show ¬ (1 : Int32) = 0 by decide, if_false, if_true]
      refine aC.of (m_sureOf hmm k2 hw6) ?_
      have eia := ina_tail (P := fun k => ft (fun j => σ 113 (σ 126 j).toNatClampNeg) (σ 127) (nI m) (nI k) n) (x := nI m) (2 ^ w - (m + 1)) hover
      rw [hN] at eia
      rw [ect, eia]
      simp only [eX10_nodded_22, fx0, fx1, fx2, fx3, fx4, nl_int, nl_ref, nl_none, nl_ti, rz_nil, rz_int, rz_ref, rz_long, cf1, cf2, Option.toList_some, Option.toList_none, List.cons_append, List.nil_append]
      exact ⟨⟨_, rfl, rfl⟩, hI0⟩
    simp only [eX9_nodded_16, eX9_nodded_32, eX9_nodded_33, eX9_nodded_35, eX9_nodded_51, eX9_nodded_52, eX9_nodded_55, eX9_nodded_56, eX9_nodded_59, eX9_nodded_60, eX9_nodded_61, fx0, fx1, fx2, fx3, fx4, nl_int, nl_ref, nl_none, nl_ti, rz_nil, rz_int, rz_ref, rz_long, cf1, cf2, Option.toList_some, Option.toList_none, List.cons_append, List.nil_append, i1, i2, if_false]
    refine aC_of rfl (Nat.le_of_ble_eq_true rfl) ?_
    show aE l (d + 28) none 6 cX6_fittingAt (some .int) _ 0 [some (.ref 103), some (.ref 9), some (.int (nI m)), some (.int i), none, none, none] [] σ
    by_cases i0 : i < 0
    · simp only [eX6_fittingAt_0, eX6_fittingAt_1, eX6_fittingAt_3, eX6_fittingAt_4, eX6_fittingAt_6, eX6_fittingAt_8, eX6_fittingAt_10, eX6_fittingAt_13, eX6_fittingAt_15, eX6_fittingAt_81, eX6_fittingAt_82, fx0, fx1, fx2, fx3, fx4, nl_int, nl_ref, nl_none, nl_ti, rz_nil, rz_int, rz_ref, rz_long, cf1, cf2, Option.toList_some, Option.toList_none, List.cons_append, List.nil_append, show ¬ (6 : Int32) < 0 by decide, if_false, i0, if_true, eX9_nodded_64]
      refine hmz _ i2 ?_
      obtain ⟨c', h1, h2⟩ := zs_neg (R := rR (fun k => ft (fun j => σ 113 (σ 126 j).toNatClampNeg) (σ 127) (nI m) (nI k) n)) (i := i) (N := 2 ^ w) i0 (by omega) (w + 1) 0 0 (by omega)
      rw [h1]
      show (∃ v : Int32, _ ∧ some (Value.int (if i = -1 then nI c' else -1)) = some (.int v)) ∧ Inv σ
      rw [if_neg i1]
      exact ⟨⟨_, rfl, rfl⟩, hI0⟩
    · obtain ⟨I, hI31, rfl⟩ := nI_of i0
      simp only [eX6_fittingAt_0, eX6_fittingAt_1, eX6_fittingAt_3, eX6_fittingAt_4, fx0, fx1, fx2, fx3, fx4, nl_int, nl_ref, nl_none, nl_ti, rz_nil, rz_int, rz_ref, rz_long, cf1, cf2, Option.toList_some, Option.toList_none, List.cons_append, List.nil_append]
      have ez : zs (rR (fun k => ft (fun j => σ 113 (σ 126 j).toNatClampNeg) (σ 127) (nI m) (nI k) n)) (nI I) (m + 1) 7 0 0 = zs (rR (fun k => ft (fun j => σ 113 (σ 126 j).toNatClampNeg) (σ 127) (nI m) (nI k) n)) (nI I) (2 ^ w) (w + 1) 0 0 := by
        rw [zs_N (N' := 2 ^ w) (fun z c => by
          rw [← hN]
          exact (rs_tail (m + 1) 0 c (fun k h1 h2 => by
            unfold rR
            rw [hover k (by omega) (by omega), Bool.and_false])).symm) 7 0 0, show 7 = (w + 1) + (6 - w) by omega]
        refine zs_tail (w + 1) 0 0 (fun z h1 h2 k hk => ?_)
        obtain ⟨z0, h3, h4⟩ := bcw w hw6 k hk
        unfold rR
        rw [h4, decide_eq_false, Bool.false_and]
        intro e
        have := (nieq (by omega) (by omega)).mp e
        omega
      have key := zs_c (l := l) (d := d + 25) (Q := fun r σ' => aE l (d + 29) none 9 cX9_nodded (some .int) (fun r σ1 => aC l (d + 30) 145 [.ref 109, .int (nI m), .int (nI I)] σ1 (fun r2 σ2 => (∃ v : Int32, r = some (.int v) ∧ r2 = some (.int v)) ∧ Inv σ2)) 64 [some (.ref 0), some (.int (nI m)), some (.int (nI I))] (r.toList ++ []) σ') hc (show m < 64 by omega) hI31 7 0 0 none (by omega) (by omega) ?_
      · exact key
      rw [ez]
      have hmz2 := hmz
      revert hmz2
      generalize zs (rR (fun k => ft (fun j => σ 113 (σ 126 j).toNatClampNeg) (σ 127) (nI m) (nI k) n)) (nI I) (2 ^ w) (w + 1) 0 0 = r
      intro hmz2
      cases r with
      | inl k =>
        simp only [eX9_nodded_64, fx0, fx1, fx2, fx3, fx4, nl_int, nl_ref, nl_none, nl_ti, rz_nil, rz_int, rz_ref, rz_long, cf1, cf2, Option.toList_some, Option.toList_none, List.cons_append, List.nil_append]
        exact hmz2 _ i2 ⟨⟨_, rfl, rfl⟩, hI0⟩
      | inr c' =>
        simp only [eX9_nodded_64, fx0, fx1, fx2, fx3, fx4, nl_int, nl_ref, nl_none, nl_ti, rz_nil, rz_int, rz_ref, rz_long, cf1, cf2, Option.toList_some, Option.toList_none, List.cons_append, List.nil_append]
        refine hmz2 _ i2 ?_
        show (∃ v : Int32, _ ∧ some (Value.int (if nI I = -1 then nI c' else -1)) = some (.int v)) ∧ Inv σ
        rw [if_neg i1]
        exact ⟨⟨_, rfl, rfl⟩, hI0⟩
  · rw [if_neg z1]
    simp only [eX9_nodded_8, eX9_nodded_11, eX9_nodded_13, fx0, fx1, fx2, fx3, fx4, nl_int, nl_ref, nl_none, nl_ti, rz_nil, rz_int, rz_ref, rz_long, cf1, cf2, Option.toList_some, Option.toList_none, List.cons_append, List.nil_append, if_true]
    refine hm _ 0 z2 ?_
    simp only [eX10_nodded_5, eX10_nodded_8, eX10_nodded_10, fx0, fx1, fx2, fx3, fx4, nl_int, nl_ref, nl_none, nl_ti, rz_nil, rz_int, rz_ref, rz_long, cf1, cf2, Option.toList_some, Option.toList_none, List.cons_append, List.nil_append, if_true]
    exact ⟨⟨_, rfl, rfl⟩, hI0⟩
end O10
