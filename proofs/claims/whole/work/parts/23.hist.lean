/-! History, Album, Seen, Book: the class's small containers -/
section HI
variable {l : Launch} {d : Nat} {σ : aW}
theorem rem20 {x : Nat} (h : x < 1000) : remI (nI x) 20 = nI (x % 20) := pk_rem (a := x) (d := 20) (by omega) (by omega) (by omega)
theorem hst {i : Nat} (h : i < 20) : isSt (20 + 3 * i) := Or.inr (Or.inl ⟨i, h, rfl⟩)
theorem c_remember {n x : Nat} (hn : σ 18 0 = nI n) (hx : σ 18 1 = nI x) (hn20 : n ≤ 20) (hx20 : x < 20) : Sem l (d + 2) 21 [.ref 18, .ref 15] σ none (su (su (cpS σ (20 + 3 * x) 15) 18 1 (nI ((x + 1) % 20))) 18 0 (nI (if n < 20 then n + 1 else 20))) := by
  refine Sem_of rfl (Nat.le_of_ble_eq_true rfl) ?_
  show aE l (d + 1) none 4 cX4_remember none _ 0 [some (.ref 18), some (.ref 15)] [] σ
  have h0 : ¬ nI x < 0 := nI_pos (by omega)
  have h20 : ¬ (20 : Int32) ≤ nI x := by rw [show (20 : Int32) = nI 20 from rfl, nile (by omega) (by omega)]; omega
  have hin : vp_in (nI x) 20 := vin hx20 (by decide)
  have hcl : (nI x).toNatClampNeg = x := nic (by omega)
  obtain ⟨f1, f2, f3, f4, f5, f6, f7, f8⟩ := st_facts1 x hx20
  simp only [eX4_remember_0, eX4_remember_1, eX4_remember_4, eX4_remember_7, eX4_remember_8, eX4_remember_11, eX4_remember_13, eX4_remember_16, eX4_remember_17, eX4_remember_20, eX4_remember_21, eX4_remember_24, eX4_remember_25, eX4_remember_28, eX4_remember_29, eX4_remember_30, eX4_remember_33, eX4_remember_34, eX4_remember_37, eX4_remember_38, eX4_remember_39, fx0, fx1, fx2, fx3, fx4, nl_int, nl_ref, nl_none, nl_ti, rz_nil, rz_int, rz_ref, rz_long, cf1, cf2, Option.toList_some, Option.toList_none, List.cons_append, List.nil_append, hx, h0, h20, if_false, hin, hcl, true_and, f1, f8, true_or]
  refine aC.of (c_copyState (hst hx20) isSt.now (by omega)) ?_
  have e18 : cpS σ (20 + 3 * x) 15 18 = σ 18 := by
    unfold cpS
    rw [if_neg (by omega), if_neg (by omega), if_neg (by omega)]
  have hr : nI x + 1 - (nI x + 1) / 20 * 20 = nI ((x + 1) % 20) := by rw [nI_1]; exact rem20 (by omega)
  have hm : (if nI n + 1 < 20 then nI n + 1 else 20) = nI (if n < 20 then n + 1 else 20) := by
    rw [nI_1, show (20 : Int32) = nI 20 from rfl]
    by_cases h : n < 20
    · rw [if_pos h]
      by_cases h2 : n + 1 < 20
      · rw [if_pos (by rw [nilt (by omega) (by omega)]; exact h2)]
      · rw [if_neg (by rw [nilt (by omega) (by omega)]; exact h2), show n + 1 = 20 by omega]
    · rw [if_neg h, if_neg (by rw [nilt (by omega) (by omega)]; omega)]
  simp only [eX4_remember_42, eX4_remember_43, eX4_remember_44, eX4_remember_47, eX4_remember_48, eX4_remember_49, eX4_remember_51, eX4_remember_52, eX4_remember_55, eX4_remember_56, eX4_remember_58, eX4_remember_59, eX4_remember_62, eX4_remember_63, eX4_remember_64, eX4_remember_67, eX4_remember_70, fx0, fx1, fx2, fx3, fx4, nl_int, nl_ref, nl_none, nl_ti, rz_nil, rz_int, rz_ref, rz_long, cf1, cf2, Option.toList_some, Option.toList_none, List.cons_append, List.nil_append, su_at, su_ne, sr_eq, sr_ne, ne_eq, Nat.reduceEqDiff, not_false_eq_true, not_true_eq_false, if_true, if_false, e18, hx, hn, hr, hm, show ¬ (20 : Int32) = 0 by decide, true_and]
theorem c_recall {n x : Nat} (hn : σ 18 0 = nI n) (hx : σ 18 1 = nI x) (hn0 : 0 < n) (hn20 : n ≤ 20) (hx20 : x < 20) : Sem l (d + 2) 22 [.ref 18, .ref 15] σ (some (.int 1)) (su (su (cpS σ 15 (20 + 3 * ((x + 19) % 20))) 18 1 (nI ((x + 19) % 20))) 18 0 (nI (n - 1))) := by
  refine Sem_of rfl (Nat.le_of_ble_eq_true rfl) ?_
  show aE l (d + 1) none 4 cX4_recall (some .boolean) _ 0 [some (.ref 18), some (.ref 15), none] [] σ
  obtain ⟨y, hy⟩ : ∃ y, y = (x + 19) % 20 := ⟨_, rfl⟩
  have hy20 : y < 20 := by omega
  have hpos : (0 : Int32) < nI n := by rw [show (0 : Int32) = nI 0 from rfl, nilt (by omega) (by omega)]; exact hn0
  have hr : nI x + 20 - 1 - (nI x + 20 - 1) / 20 * 20 = nI y := by
    rw [show (20 : Int32) = nI 20 from rfl, nI_add, show (1 : Int32) = nI 1 from rfl, pk_sub (by omega), show x + 20 - 1 = x + 19 by omega, hy]
    exact rem20 (by omega)
  have h0 : ¬ nI y < 0 := nI_pos (by omega)
  have hin : vp_in (nI y) 20 := vin hy20 (by decide)
  have hcl : (nI y).toNatClampNeg = y := nic (by omega)
  obtain ⟨f1, f2, f3, f4, f5, f6, f7, f8⟩ := st_facts1 y hy20
  rw [← hy]
  simp only [eX4_recall_0, eX4_recall_1, eX4_recall_4, eX4_recall_7, eX4_recall_8, eX4_recall_9, eX4_recall_10, eX4_recall_13, eX4_recall_15, eX4_recall_16, eX4_recall_17, eX4_recall_18, eX4_recall_20, eX4_recall_21, eX4_recall_22, eX4_recall_23, eX4_recall_26, eX4_recall_27, eX4_recall_30, eX4_recall_31, eX4_recall_32, eX4_recall_35, eX4_recall_36, eX4_recall_37, eX4_recall_38, eX4_recall_39, eX4_recall_42, eX4_recall_43, eX4_recall_44, fx0, fx1, fx2, fx3, fx4, nl_int, nl_ref, nl_none, nl_ti, rz_nil, rz_int, rz_ref, rz_long, cf1, cf2, Option.toList_some, Option.toList_none, List.cons_append, List.nil_append, hx, hn, hpos, hr, h0, if_true, if_false, hin, hcl, true_and, f1, f8, true_or, show ¬ (20 : Int32) = 0 by decide, not_false_eq_true]
  refine aC.of (c_copyState isSt.now (hst hy20) (by omega)) ?_
  have e18 : cpS σ 15 (20 + 3 * y) 18 = σ 18 := by
    unfold cpS
    rw [if_neg (by omega), if_neg (by omega), if_neg (by omega)]
  have hm : nI n - 1 = nI (n - 1) := by rw [show (1 : Int32) = nI 1 from rfl, pk_sub (by omega)]
  simp only [eX4_recall_47, eX4_recall_48, eX4_recall_49, eX4_recall_52, eX4_recall_53, eX4_recall_54, eX4_recall_57, eX4_recall_58, eX4_recall_59, eX4_recall_62, eX4_recall_63, fx0, fx1, fx2, fx3, fx4, nl_int, nl_ref, nl_none, nl_ti, rz_nil, rz_int, rz_ref, rz_long, cf1, cf2, Option.toList_some, Option.toList_none, List.cons_append, List.nil_append, su_at, su_ne, sr_eq, sr_ne, ne_eq, Nat.reduceEqDiff, not_false_eq_true, not_true_eq_false, if_true, if_false, e18, hx, hn, hm, true_and]
  simp
theorem c_recall0 (hn : σ 18 0 = 0) : Sem l (d + 2) 22 [.ref 18, .ref 15] σ (some (.int 0)) σ := by
  refine Sem_of rfl (Nat.le_of_ble_eq_true rfl) ?_
  show aE l (d + 1) none 4 cX4_recall (some .boolean) _ 0 [some (.ref 18), some (.ref 15), none] [] σ
  simp only [eX4_recall_0, eX4_recall_1, eX4_recall_4, eX4_recall_7, eX4_recall_8, fx0, fx1, fx2, fx3, fx4, nl_int, nl_ref, nl_none, nl_ti, rz_nil, rz_int, rz_ref, rz_long, cf1, cf2, Option.toList_some, Option.toList_none, List.cons_append, List.nil_append, hn, show ¬ (0 : Int32) < 0 by decide, if_false]
  simp
theorem c_clearH : Sem l (d + 1) 20 [.ref 18] σ none (su (su σ 18 0 0) 18 1 0) := by
  refine Sem_of rfl (Nat.le_of_ble_eq_true rfl) ?_
  show aE l d none 4 cX4_clear none _ 0 [some (.ref 18)] [] σ
  simp only [eX4_clear_0, eX4_clear_1, eX4_clear_2, eX4_clear_5, eX4_clear_6, eX4_clear_7, eX4_clear_10, fx0, fx1, fx2, fx3, fx4, nl_int, nl_ref, nl_none, nl_ti, rz_nil, rz_int, rz_ref, rz_long, cf1, cf2, Option.toList_some, Option.toList_none, List.cons_append, List.nil_append, true_or, or_true, true_and, and_true, and_self]
theorem c_clearSeen : Sem l (d + 1) 36 [.ref 103] σ none (su σ 103 0 0) := by
  refine Sem_of rfl (Nat.le_of_ble_eq_true rfl) ?_
  show aE l d none 6 cX6_clear none _ 0 [some (.ref 103)] [] σ
  simp only [eX6_clear_0, eX6_clear_1, eX6_clear_2, eX6_clear_5, fx0, fx1, fx2, fx3, fx4, nl_int, nl_ref, nl_none, nl_ti, rz_nil, rz_int, rz_ref, rz_long, cf1, cf2, Option.toList_some, Option.toList_none, List.cons_append, List.nil_append, true_or, or_true, true_and, and_true, and_self]
theorem c_clearBook : Sem l (d + 1) 4 [.ref 106] σ none (su σ 106 0 0) := by
  refine Sem_of rfl (Nat.le_of_ble_eq_true rfl) ?_
  show aE l d none 1 cX1_clear none _ 0 [some (.ref 106)] [] σ
  simp only [eX1_clear_0, eX1_clear_1, eX1_clear_2, eX1_clear_5, fx0, fx1, fx2, fx3, fx4, nl_int, nl_ref, nl_none, nl_ti, rz_nil, rz_int, rz_ref, rz_long, cf1, cf2, Option.toList_some, Option.toList_none, List.cons_append, List.nil_append, true_or, or_true, true_and, and_true, and_self]
theorem c_appSeen {n : Nat} (hn : σ 103 0 = nI n) (h8 : n < 8) {q up : Int32} : Sem l (d + 1) 37 [.ref 103, .int q, .int up] σ (some (.int 1)) (su (su (su σ 104 n q) 105 n (vp_nar .boolean up)) 103 0 (nI (n + 1))) := by
  refine Sem_of rfl (Nat.le_of_ble_eq_true rfl) ?_
  show aE l d none 6 cX6_append (some .boolean) _ 0 [some (.ref 103), some (.int q), some (.int up)] [] σ
  have h0 : ¬ nI n < 0 := nI_pos (by omega)
  have hlt : nI n < 8 := by rw [show (8 : Int32) = nI 8 from rfl, nilt (by omega) (by omega)]; exact h8
  have hin : vp_in (nI n) 8 := vin h8 (by decide)
  have hcl : (nI n).toNatClampNeg = n := nic (by omega)
  simp only [eX6_append_0, eX6_append_1, eX6_append_4, eX6_append_7, eX6_append_8, eX6_append_11, eX6_append_13, eX6_append_16, eX6_append_17, eX6_append_18, eX6_append_19, eX6_append_22, eX6_append_23, eX6_append_26, eX6_append_27, eX6_append_28, eX6_append_29, eX6_append_32, eX6_append_33, eX6_append_36, eX6_append_37, eX6_append_38, eX6_append_39, eX6_append_40, eX6_append_43, eX6_append_44, eX6_append_45, eX6_append_48, eX6_append_49, fx0, fx1, fx2, fx3, fx4, nl_int, nl_ref, nl_none, nl_ti, rz_nil, rz_int, rz_ref, rz_long, cf1, cf2, Option.toList_some, Option.toList_none, List.cons_append, List.nil_append, su_at, su_ne, sr_eq, sr_ne, ne_eq, Nat.reduceEqDiff, not_false_eq_true, not_true_eq_false, if_true, if_false, hn, h0, hlt, hin, hcl, true_and, nI_1]
  simp
theorem c_appSeenFull {q up : Int32} (hn : σ 103 0 = nI 8) : Sem l (d + 1) 37 [.ref 103, .int q, .int up] σ (some (.int 0)) σ := by
  refine Sem_of rfl (Nat.le_of_ble_eq_true rfl) ?_
  show aE l d none 6 cX6_append (some .boolean) _ 0 [some (.ref 103), some (.int q), some (.int up)] [] σ
  simp only [eX6_append_0, eX6_append_1, eX6_append_4, eX6_append_7, eX6_append_8, eX6_append_11, eX6_append_13, eX6_append_16, eX6_append_17, eX6_append_18, eX6_append_19, eX6_append_22, eX6_append_23, eX6_append_26, eX6_append_27, eX6_append_28, eX6_append_29, eX6_append_32, eX6_append_33, eX6_append_36, eX6_append_37, eX6_append_38, eX6_append_39, eX6_append_40, eX6_append_43, eX6_append_44, eX6_append_45, eX6_append_48, eX6_append_49, fx0, fx1, fx2, fx3, fx4, nl_int, nl_ref, nl_none, nl_ti, rz_nil, rz_int, rz_ref, rz_long, cf1, cf2, Option.toList_some, Option.toList_none, List.cons_append, List.nil_append, su_at, su_ne, sr_eq, sr_ne, ne_eq, Nat.reduceEqDiff, not_false_eq_true, not_true_eq_false, if_true, if_false, hn, show ¬ nI 8 < 0 by decide, show ¬ nI 8 < 8 by decide, true_and]
  simp
theorem c_appBook {n : Nat} (hn : σ 106 0 = nI n) (h8 : n < 15) {q t : Int32} : Sem l (d + 1) 5 [.ref 106, .int q, .int t] σ (some (.int 1)) (su (su (su σ 107 n q) 108 n t) 106 0 (nI (n + 1))) := by
  refine Sem_of rfl (Nat.le_of_ble_eq_true rfl) ?_
  show aE l d none 1 cX1_append (some .boolean) _ 0 [some (.ref 106), some (.int q), some (.int t)] [] σ
  have h0 : ¬ nI n < 0 := nI_pos (by omega)
  have hlt : nI n < 15 := by rw [show (15 : Int32) = nI 15 from rfl, nilt (by omega) (by omega)]; exact h8
  have hin : vp_in (nI n) 15 := vin h8 (by decide)
  have hcl : (nI n).toNatClampNeg = n := nic (by omega)
  simp only [eX1_append_0, eX1_append_1, eX1_append_4, eX1_append_7, eX1_append_8, eX1_append_11, eX1_append_13, eX1_append_16, eX1_append_17, eX1_append_18, eX1_append_19, eX1_append_22, eX1_append_23, eX1_append_26, eX1_append_27, eX1_append_28, eX1_append_29, eX1_append_32, eX1_append_33, eX1_append_36, eX1_append_37, eX1_append_38, eX1_append_39, eX1_append_40, eX1_append_43, eX1_append_44, eX1_append_45, eX1_append_48, eX1_append_49, fx0, fx1, fx2, fx3, fx4, nl_int, nl_ref, nl_none, nl_ti, rz_nil, rz_int, rz_ref, rz_long, cf1, cf2, Option.toList_some, Option.toList_none, List.cons_append, List.nil_append, su_at, su_ne, sr_eq, sr_ne, ne_eq, Nat.reduceEqDiff, not_false_eq_true, not_true_eq_false, if_true, if_false, hn, h0, hlt, hin, hcl, true_and, nI_1]
  simp
theorem c_appBookFull {q t : Int32} (hn : σ 106 0 = nI 15) : Sem l (d + 1) 5 [.ref 106, .int q, .int t] σ (some (.int 0)) σ := by
  refine Sem_of rfl (Nat.le_of_ble_eq_true rfl) ?_
  show aE l d none 1 cX1_append (some .boolean) _ 0 [some (.ref 106), some (.int q), some (.int t)] [] σ
  simp only [eX1_append_0, eX1_append_1, eX1_append_4, eX1_append_7, eX1_append_8, eX1_append_11, eX1_append_13, eX1_append_16, eX1_append_17, eX1_append_18, eX1_append_19, eX1_append_22, eX1_append_23, eX1_append_26, eX1_append_27, eX1_append_28, eX1_append_29, eX1_append_32, eX1_append_33, eX1_append_36, eX1_append_37, eX1_append_38, eX1_append_39, eX1_append_40, eX1_append_43, eX1_append_44, eX1_append_45, eX1_append_48, eX1_append_49, fx0, fx1, fx2, fx3, fx4, nl_int, nl_ref, nl_none, nl_ti, rz_nil, rz_int, rz_ref, rz_long, cf1, cf2, Option.toList_some, Option.toList_none, List.cons_append, List.nil_append, su_at, su_ne, sr_eq, sr_ne, ne_eq, Nat.reduceEqDiff, not_false_eq_true, not_true_eq_false, if_true, if_false, hn, show ¬ nI 15 < 0 by decide, show ¬ nI 15 < 15 by decide, true_and]
  simp
theorem c_hasPlace {i : Int32} : Sem l (d + 1) 1 [.ref 80, .int i] σ (some (.int (if i < 0 then 0 else if 2 ≤ i then 0 else 1))) σ := by
  refine Sem_of rfl (Nat.le_of_ble_eq_true rfl) ?_
  show aE l d none 0 cX0_hasPlace (some .boolean) _ 0 [some (.ref 80), some (.int i)] [] σ
  simp only [eX0_hasPlace_0, eX0_hasPlace_1, eX0_hasPlace_4, eX0_hasPlace_5, eX0_hasPlace_6, eX0_hasPlace_9, eX0_hasPlace_10, eX0_hasPlace_13, eX0_hasPlace_14, fx0, fx1, fx2, fx3, fx4, nl_int, nl_ref, nl_none, nl_ti, rz_nil, rz_int, rz_ref, rz_long, cf1, cf2, Option.toList_some, Option.toList_none, List.cons_append, List.nil_append]
  (repeat' split) <;> simp_all
theorem hst2 {i : Nat} (h : i < 2) : isSt (84 + 3 * i) := Or.inr (Or.inr ⟨i, h, rfl⟩)
theorem c_store {i : Nat} (hi : i < 2) : Sem l (d + 2) 2 [.ref 80, .int (nI i), .ref 15, .ref 90] σ none (su (su (cpS σ (84 + 3 * i) 15) 82 i (σ 90 0)) 83 i 1) := by
  refine Sem_of rfl (Nat.le_of_ble_eq_true rfl) ?_
  show aE l (d + 1) none 0 cX0_store none _ 0 [some (.ref 80), some (.int (nI i)), some (.ref 15), some (.ref 90)] [] σ
  have h0 : ¬ nI i < 0 := nI_pos (by omega)
  have h2 : ¬ (2 : Int32) ≤ nI i := by rw [show (2 : Int32) = nI 2 from rfl, nile (by omega) (by omega)]; omega
  have hin : vp_in (nI i) 2 := vin hi (by decide)
  have hcl : (nI i).toNatClampNeg = i := nic (by omega)
  obtain ⟨f1, f2, f3, f4, f5, f6, f7, f8⟩ := st_facts2 i hi
  simp only [eX0_store_0, eX0_store_1, eX0_store_2, fx0, fx1, fx2, fx3, fx4, nl_int, nl_ref, nl_none, nl_ti, rz_nil, rz_int, rz_ref, rz_long, cf1, cf2, Option.toList_some, Option.toList_none, List.cons_append, List.nil_append]
  refine aC.of c_hasPlace ?_
  simp only [eX0_store_5, eX0_store_8, eX0_store_9, eX0_store_12, eX0_store_13, eX0_store_14, eX0_store_17, eX0_store_18, eX0_store_19, eX0_store_22, eX0_store_23, eX0_store_24, eX0_store_25, fx0, fx1, fx2, fx3, fx4, nl_int, nl_ref, nl_none, nl_ti, rz_nil, rz_int, rz_ref, rz_long, cf1, cf2, Option.toList_some, Option.toList_none, List.cons_append, List.nil_append, h0, h2, if_false, hin, hcl, true_and, f1, f8, true_or, show ¬ (1 : Int32) = 0 by decide]
  refine aC.of (c_copyState (hst2 hi) isSt.now (by omega)) ?_
  have e90 : cpS σ (84 + 3 * i) 15 90 = σ 90 := by
    unfold cpS
    rw [if_neg (by omega), if_neg (by omega), if_neg (by omega)]
  simp only [eX0_store_28, eX0_store_29, eX0_store_32, eX0_store_33, eX0_store_34, eX0_store_37, eX0_store_38, eX0_store_39, eX0_store_42, eX0_store_43, eX0_store_44, eX0_store_45, fx0, fx1, fx2, fx3, fx4, nl_int, nl_ref, nl_none, nl_ti, rz_nil, rz_int, rz_ref, rz_long, cf1, cf2, Option.toList_some, Option.toList_none, List.cons_append, List.nil_append, su_at, su_ne, sr_eq, sr_ne, ne_eq, Nat.reduceEqDiff, not_false_eq_true, not_true_eq_false, if_true, if_false, e90, hin, hcl, true_and, show vp_nar .boolean 1 = 1 by decide +kernel]
theorem c_load {i : Nat} (hi : i < 2) (hk : ¬ σ 83 i = 0) : Sem l (d + 2) 3 [.ref 80, .int (nI i), .ref 15, .ref 90] σ (some (.int 1)) (su (cpS σ 15 (84 + 3 * i)) 90 0 (σ 82 i)) := by
  refine Sem_of rfl (Nat.le_of_ble_eq_true rfl) ?_
  show aE l (d + 1) none 0 cX0_load (some .boolean) _ 0 [some (.ref 80), some (.int (nI i)), some (.ref 15), some (.ref 90)] [] σ
  have h0 : ¬ nI i < 0 := nI_pos (by omega)
  have h2 : ¬ (2 : Int32) ≤ nI i := by rw [show (2 : Int32) = nI 2 from rfl, nile (by omega) (by omega)]; omega
  have hin : vp_in (nI i) 2 := vin hi (by decide)
  have hcl : (nI i).toNatClampNeg = i := nic (by omega)
  obtain ⟨f1, f2, f3, f4, f5, f6, f7, f8⟩ := st_facts2 i hi
  simp only [eX0_load_0, eX0_load_1, eX0_load_2, fx0, fx1, fx2, fx3, fx4, nl_int, nl_ref, nl_none, nl_ti, rz_nil, rz_int, rz_ref, rz_long, cf1, cf2, Option.toList_some, Option.toList_none, List.cons_append, List.nil_append]
  refine aC.of c_hasPlace ?_
  simp only [eX0_load_5, eX0_load_8, eX0_load_9, eX0_load_12, eX0_load_13, eX0_load_14, eX0_load_17, eX0_load_18, eX0_load_21, eX0_load_22, eX0_load_23, eX0_load_26, eX0_load_27, eX0_load_28, eX0_load_29, eX0_load_30, eX0_load_33, eX0_load_34, eX0_load_35, fx0, fx1, fx2, fx3, fx4, nl_int, nl_ref, nl_none, nl_ti, rz_nil, rz_int, rz_ref, rz_long, cf1, cf2, Option.toList_some, Option.toList_none, List.cons_append, List.nil_append, h0, h2, hk, if_false, hin, hcl, true_and, f1, f8, true_or, show ¬ (1 : Int32) = 0 by decide]
  refine aC.of (c_copyState isSt.now (hst2 hi) (by omega)) ?_
  have e82 : cpS σ 15 (84 + 3 * i) 82 = σ 82 := by
    unfold cpS
    rw [if_neg (by omega), if_neg (by omega), if_neg (by omega)]
  simp only [eX0_load_38, eX0_load_39, eX0_load_40, eX0_load_43, eX0_load_44, eX0_load_45, eX0_load_48, eX0_load_49, fx0, fx1, fx2, fx3, fx4, nl_int, nl_ref, nl_none, nl_ti, rz_nil, rz_int, rz_ref, rz_long, cf1, cf2, Option.toList_some, Option.toList_none, List.cons_append, List.nil_append, su_at, su_ne, sr_eq, sr_ne, ne_eq, Nat.reduceEqDiff, not_false_eq_true, not_true_eq_false, if_true, if_false, e82, hin, hcl, true_and]
  simp
theorem c_load0 {i : Nat} (hi : i < 2) (hk : σ 83 i = 0) : Sem l (d + 2) 3 [.ref 80, .int (nI i), .ref 15, .ref 90] σ (some (.int 0)) σ := by
  refine Sem_of rfl (Nat.le_of_ble_eq_true rfl) ?_
  show aE l (d + 1) none 0 cX0_load (some .boolean) _ 0 [some (.ref 80), some (.int (nI i)), some (.ref 15), some (.ref 90)] [] σ
  have h0 : ¬ nI i < 0 := nI_pos (by omega)
  have h2 : ¬ (2 : Int32) ≤ nI i := by rw [show (2 : Int32) = nI 2 from rfl, nile (by omega) (by omega)]; omega
  have hin : vp_in (nI i) 2 := vin hi (by decide)
  have hcl : (nI i).toNatClampNeg = i := nic (by omega)
  obtain ⟨f1, f2, f3, f4, f5, f6, f7, f8⟩ := st_facts2 i hi
  simp only [eX0_load_0, eX0_load_1, eX0_load_2, fx0, fx1, fx2, fx3, fx4, nl_int, nl_ref, nl_none, nl_ti, rz_nil, rz_int, rz_ref, rz_long, cf1, cf2, Option.toList_some, Option.toList_none, List.cons_append, List.nil_append]
  refine aC.of c_hasPlace ?_
  simp only [eX0_load_5, eX0_load_8, eX0_load_9, eX0_load_12, eX0_load_13, eX0_load_14, eX0_load_17, eX0_load_18, eX0_load_21, eX0_load_22, eX0_load_23, eX0_load_26, eX0_load_27, fx0, fx1, fx2, fx3, fx4, nl_int, nl_ref, nl_none, nl_ti, rz_nil, rz_int, rz_ref, rz_long, cf1, cf2, Option.toList_some, Option.toList_none, List.cons_append, List.nil_append, h0, h2, hk, if_false, if_true, hin, hcl, true_and, f1, f8, true_or, show ¬ (1 : Int32) = 0 by decide]
theorem c_clearAlbum : Sem l (d + 1) 0 [.ref 80] σ none (su (su σ 83 0 0) 83 1 0) := by
  refine Sem_of rfl (Nat.le_of_ble_eq_true rfl) ?_
  show aE l d none 0 cX0_clear none _ 0 [some (.ref 80), none] [] σ
  have i0 : vp_in 0 2 := vin (n := 0) (by decide) (by decide)
  have i1 : vp_in 1 2 := vin (n := 1) (by decide) (by decide)
  have e1 : (0 : Int32) + 1 = 1 := by decide
  have e2 : (1 : Int32) + 1 = 2 := by decide
  have z : vp_nar .boolean 0 = 0 := by decide +kernel
  simp only [eX0_clear_0, eX0_clear_1, fx0, fx1, fx2, fx3, fx4, nl_int, nl_ref, nl_none, nl_ti, rz_nil, rz_int, rz_ref, rz_long, cf1, cf2, Option.toList_some, Option.toList_none, List.cons_append, List.nil_append]
  rw [eX0_clear_2]
  simp only [eX0_clear_3, eX0_clear_4, eX0_clear_7, eX0_clear_8, eX0_clear_11, eX0_clear_12, eX0_clear_13, eX0_clear_14, eX0_clear_17, fx0, fx1, fx2, fx3, fx4, nl_int, nl_ref, nl_none, nl_ti, rz_nil, rz_int, rz_ref, rz_long, cf1, cf2, Option.toList_some, Option.toList_none, List.cons_append, List.nil_append, i0, z, e1, show ¬ (2 : Int32) ≤ 0 by decide, if_false, true_and]
  rw [eX0_clear_2]
  simp only [eX0_clear_3, eX0_clear_4, eX0_clear_7, eX0_clear_8, eX0_clear_11, eX0_clear_12, eX0_clear_13, eX0_clear_14, eX0_clear_17, fx0, fx1, fx2, fx3, fx4, nl_int, nl_ref, nl_none, nl_ti, rz_nil, rz_int, rz_ref, rz_long, cf1, cf2, Option.toList_some, Option.toList_none, List.cons_append, List.nil_append, i1, z, e2, show ¬ (2 : Int32) ≤ 1 by decide, if_false, true_and]
  rw [eX0_clear_2]
  simp only [eX0_clear_3, eX0_clear_4, eX0_clear_7, eX0_clear_8, eX0_clear_11, eX0_clear_12, eX0_clear_13, eX0_clear_14, eX0_clear_17, eX0_clear_20, fx0, fx1, fx2, fx3, fx4, nl_int, nl_ref, nl_none, nl_ti, rz_nil, rz_int, rz_ref, rz_long, cf1, cf2, Option.toList_some, Option.toList_none, List.cons_append, List.nil_append, show (2 : Int32) ≤ 2 by decide, if_true, true_or, or_true, true_and, and_true, and_self]
end HI
