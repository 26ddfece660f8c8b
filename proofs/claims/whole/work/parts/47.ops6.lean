/-! undo, keep, goBack -/
section O6
variable {l : Launch} {d : Nat} {σ : aW}
theorem op_undo (hI : Inv σ) : Pair l (d + 30) 71 125 [] σ := by
  have hI0 := hI
  obtain ⟨h, w, s, hK, ⟨hS, hR⟩, hH, hIm, hD, hE, hB, hT⟩ := hI
  have hw6 : w ≤ 6 := hK.1.2.2
  obtain ⟨n, hn, hH1, hH2⟩ := hH
  refine aC_of rfl (Nat.le_of_ble_eq_true rfl) ?_
  show aE l (d + 29) none 9 cX9_undo (some .int) _ 0 [some (.ref 0)] [] σ
  simp only [eX9_undo_0, eX9_undo_1, eX9_undo_4, eX9_undo_5, eX9_undo_8, fx0, fx1, fx2, fx3, fx4, nl_int, nl_ref, nl_none, nl_ti, rz_nil, rz_int, rz_ref, rz_long, cf1, cf2, Option.toList_some, Option.toList_none, List.cons_append, List.nil_append]
  by_cases h0 : n = 0
  · subst h0
    refine aC.of (c_recall0 hH1.2.1) ?_
    simp only [eX9_undo_11, eX9_undo_14, eX9_undo_16, fx0, fx1, fx2, fx3, fx4, nl_int, nl_ref, nl_none, nl_ti, rz_nil, rz_int, rz_ref, rz_long, cf1, cf2, Option.toList_some, Option.toList_none, List.cons_append, List.nil_append, if_true]
    refine aC.of (m_undo0 hn) ⟨⟨_, rfl, rfl⟩, hI0⟩
  · refine (c_recC hH1 (by omega) hw6).mono ?_
    rintro ro σ1 ⟨rfl, st1, hist, fr⟩
    simp only [eX9_undo_11, eX9_undo_14, eX9_undo_16, eX9_undo_17, eX9_undo_18, eX9_undo_21, eX9_undo_24, fx0, fx1, fx2, fx3, fx4, nl_int, nl_ref, nl_none, nl_ti, rz_nil, rz_int, rz_ref, rz_long, cf1, cf2, Option.toList_some, Option.toList_none, List.cons_append, List.nil_append, show ¬ (1 : Int32) = 0 by decide, if_false]
    have e109 := fr 109 (by decide)
    have e122 := fr 122 (by decide)
    refine aC.of (m_undo (n := n) (by rw [e109]; exact hn) (by omega) hH1.1) ⟨⟨_, rfl, by rw [hist.2.1]⟩, ?_⟩
    rw [e122]
    have f : ∀ c, (c < 15 ∨ 18 < c) → c ≠ 109 → c ≠ 114 → sr (su σ1 109 26 (nI (n - 1))) 114 (pre 19 (fun k => σ 122 (19 * (n - 1) + k)) (σ1 114)) c = σ c := fun c h1 h2 h3 => by rw [sr_ne h3, su_ne h2, fr c h1]
    have f109 : ∀ k, k ≠ 26 → sr (su σ1 109 26 (nI (n - 1))) 114 (pre 19 (fun k => σ 122 (19 * (n - 1) + k)) (σ1 114)) 109 k = σ 109 k := fun k hk => by simp only [su_at, su_ne, sr_eq, sr_ne, ne_eq, Nat.reduceEqDiff, not_false_eq_true, not_true_eq_false, if_true, if_false, hk, e109]
    have fc : ∀ c, 15 ≤ c → c ≤ 79 → sr (su σ1 109 26 (nI (n - 1))) 114 (pre 19 (fun k => σ 122 (19 * (n - 1) + k)) (σ1 114)) c = σ1 c := fun c h1 h2 => by rw [sr_ne (by omega), su_ne (by omega)]
    have hrow : ∀ k, k < 19 → sr (su σ1 109 26 (nI (n - 1))) 114 (pre 19 (fun k => σ 122 (19 * (n - 1) + k)) (σ1 114)) 114 k = σ 122 (19 * (n - 1) + k) := fun k hk => by rw [sr_eq]; exact if_pos hk
    have f26 : sr (su σ1 109 26 (nI (n - 1))) 114 (pre 19 (fun k => σ 122 (19 * (n - 1) + k)) (σ1 114)) 109 26 = nI (n - 1) := by simp only [su_at, su_ne, sr_eq, sr_ne, ne_eq, Nat.reduceEqDiff, not_false_eq_true, not_true_eq_false, if_true, if_false]
    generalize sr (su σ1 109 26 (nI (n - 1))) 114 (pre 19 (fun k => σ 122 (19 * (n - 1) + k)) (σ1 114)) = σ2 at f f109 fc hrow f26 ⊢
    have f122 := f 122 (by decide) (by decide) (by decide)
    refine ⟨h, w, s, hK.congr (fun c h1 h2 => f c (by omega) (by omega) (by omega)) (fun c h1 h2 => f c (by omega) (by omega) (by omega)) (fun k hk => f109 k (by omega)), ⟨st1.congr (fun k hk => by rw [fc 15 (by decide) (by decide)]) (fun k hk => by rw [show 15 + 1 = 16 from rfl, fc 16 (by decide) (by decide)]) (fun k hk => by rw [show 15 + 2 = 17 from rfl, fc 17 (by decide) (by decide)]) hw6 hrow, (hH2 (n - 1) (by omega)).congr hw6 hrow⟩, ⟨n - 1, f26, hist.congr (fun c h1 h2 => fc c (by omega) (by omega)) hw6 (fun j k _ _ => by rw [f122]), fun j hj => by rw [f122]; exact hH2 j (by omega)⟩, hIm.congr (fun c h1 h2 => f c (by omega) (by omega) (by omega)) (f 130 (by decide) (by decide) (by decide)) (f 131 (by decide) (by decide) (by decide)), hD.congr (f 90 (by decide) (by decide) (by decide)) (f109 11 (by decide)), hE.congr (fun c h1 h2 => f c (by omega) (by omega) (by omega)) (f109 32 (by decide)) (f 126 (by decide) (by decide) (by decide)) (f 127 (by decide) (by decide) (by decide)), hB.congr (fun c h1 h2 => f c (by omega) (by omega) (by omega)) (f109 35 (by decide)) (f 128 (by decide) (by decide) (by decide)) (f 129 (by decide) (by decide) (by decide)), hT.congr (f 1 (by decide) (by decide) (by decide)) (f 8 (by decide) (by decide) (by decide)) (f109 13 (by decide)) (f109 14 (by decide)) (f 115 (by decide) (by decide) (by decide))⟩
theorem img (x : Int32) : (∃ n, n < 2 ∧ x = nI n) ∨ ((if x < 0 then (0 : Int32) else if 2 ≤ x then 0 else 1) = 0 ∧ inB x.toInt64 0 1 = 0) := by
  rcases rgc x (N := 1) (by decide) with ⟨n, hn, rfl⟩ | ⟨h1, h2⟩
  · exact Or.inl ⟨n, by omega, rfl⟩
  · refine Or.inr ⟨?_, h2⟩
    rcases h1 with h1 | ⟨h1, h3⟩
    · rw [if_pos h1]
    · rw [if_neg h1, if_pos]
      obtain ⟨j, hj, rfl⟩ := nI_of h1
      rw [nI_leI hj (by decide)] at h3
      rw [show (2 : Int32) = nI 2 from rfl, nI_leI (by decide) hj]
      omega
theorem img1 {n : Nat} (h : n < 2) : (if nI n < 0 then (0 : Int32) else if 2 ≤ nI n then 0 else 1) = 1 ∧ inB (nI n).toInt64 0 1 = 1 := by
  rcases (show n = 0 ∨ n = 1 by omega) with rfl | rfl <;> decide
theorem keep_loop {Q : Option Value → aW → Prop} {τ : aW} {i : Nat} (hi : i < 2) (hk : aE l d none 10 cX10_keep (some .int) Q 44 [some (.ref 109), some (.int (nI i)), some (.int (nI 19))] [] (sr τ 130 (rng (20 * i) 19 (fun k => τ 114 (k - 20 * i)) (τ 130)))) : ∀ n p, p + n = 19 → aE l d none 10 cX10_keep (some .int) Q 15 [some (.ref 109), some (.int (nI i)), some (.int (nI p))] [] (sr τ 130 (rng (20 * i) p (fun k => τ 114 (k - 20 * i)) (τ 130))) := by
  intro n
  induction n with
  | zero =>
    intro p hp
    have hp : p = 19 := by omega
    subst hp
    rw [eX10_keep_15]
    simp only [eX10_keep_16, eX10_keep_18, show (19 : Int32) ≤ nI 19 by decide, if_true]
    exact hk
  | succ n ih =>
    intro p hp
    have h2 : ¬ (19 : Int32) ≤ nI p := by rw [show (19 : Int32) = nI 19 from rfl, nile (by omega) (by omega)]; omega
    have hs : (20 : Int32) * nI i + nI p = nI (20 * i + p) := by rw [show (20 : Int32) = nI 20 from rfl, pk_mul, nI_add]
    have hin : vp_in (nI p) 19 := vin (by omega) (by omega)
    have hin2 : vp_in (nI (20 * i + p)) 40 := vin (by omega) (by omega)
    have hcl : (nI p).toNatClampNeg = p := nic (by omega)
    have hcl2 : (nI (20 * i + p)).toNatClampNeg = 20 * i + p := nic (by omega)
    have hinc : nI p + 1 = nI (p + 1) := nI_1 p
    rw [eX10_keep_15]
    simp only [eX10_keep_16, eX10_keep_18, eX10_keep_21, eX10_keep_22, eX10_keep_25, eX10_keep_27, eX10_keep_28, eX10_keep_29, eX10_keep_30, eX10_keep_31, eX10_keep_32, eX10_keep_35, eX10_keep_36, eX10_keep_37, eX10_keep_38, eX10_keep_41, fx0, fx1, fx2, fx3, fx4, nl_int, nl_ref, nl_none, nl_ti, rz_nil, rz_int, rz_ref, rz_long, cf1, cf2, Option.toList_some, Option.toList_none, List.cons_append, List.nil_append, su_at, su_ne, sr_eq, sr_ne, ne_eq, Nat.reduceEqDiff, not_false_eq_true, not_true_eq_false, if_true, if_false, h2, hs, hin, hin2, hcl, hcl2, hinc, true_and]
    rw [rng_step (h := fun k => τ 114 (k - 20 * i)) (by show _ = τ 114 (20 * i + p - 20 * i); rw [Nat.add_sub_cancel_left])]
    exact ih (p + 1) (by omega)
theorem op_keep (hI : Inv σ) (x : Int32) : Pair l (d + 30) 87 151 [.int x] σ := by
  have hI0 := hI
  obtain ⟨h, w, s, hK, ⟨hS, hR⟩, hH, hIm, hD, hE, hB, hT⟩ := hI
  have hw6 : w ≤ 6 := hK.1.2.2
  refine aC_of rfl (Nat.le_of_ble_eq_true rfl) ?_
  show aE l (d + 29) none 9 cX9_keep (some .int) _ 0 [some (.ref 0), some (.int x)] [] σ
  simp only [eX9_keep_0, eX9_keep_1, eX9_keep_4, eX9_keep_5, fx0, fx1, fx2, fx3, fx4, nl_int, nl_ref, nl_none, nl_ti, rz_nil, rz_int, rz_ref, rz_long, cf1, cf2, Option.toList_some, Option.toList_none, List.cons_append, List.nil_append]
  refine aC.of c_hasPlace ?_
  have hm : ∀ (τ : aW) (P : Option Value → aW → Prop) (v : Int32), inB x.toInt64 0 1 = v → aE l (d + 29) none 10 cX10_keep (some .int) P 7 [some (.ref 109), some (.int x), none] [.int v] τ → aC l (d + 30) 151 [.ref 109, .int x] τ P := by
    intro τ P v hv hP
    refine aC_of rfl (Nat.le_of_ble_eq_true rfl) ?_
    show aE l (d + 29) none 10 cX10_keep (some .int) _ 0 [some (.ref 109), some (.int x), none] [] τ
    simp only [eX10_keep_0, eX10_keep_1, eX10_keep_2, eX10_keep_3, eX10_keep_4, fx0, fx1, fx2, fx3, fx4, nl_int, nl_ref, nl_none, nl_ti, rz_nil, rz_int, rz_ref, rz_long, cf1, cf2, Option.toList_some, Option.toList_none, List.cons_append, List.nil_append]
    refine aC.of m_in ?_
    rw [hv]
    exact hP
  rcases img x with ⟨i, hi, rfl⟩ | ⟨z1, z2⟩
  · obtain ⟨o1, o2⟩ := img1 hi
    rw [o1]
    simp only [eX9_keep_8, eX9_keep_11, eX9_keep_13, eX9_keep_14, eX9_keep_15, eX9_keep_18, eX9_keep_19, eX9_keep_20, eX9_keep_23, eX9_keep_24, eX9_keep_27, fx0, fx1, fx2, fx3, fx4, nl_int, nl_ref, nl_none, nl_ti, rz_nil, rz_int, rz_ref, rz_long, cf1, cf2, Option.toList_some, Option.toList_none, List.cons_append, List.nil_append, show ¬ (1 : Int32) = 0 by decide, if_false]
    refine aC.of (c_store hi) ?_
    simp only [eX9_keep_30, eX9_keep_31, eX9_keep_34, fx0, fx1, fx2, fx3, fx4, nl_int, nl_ref, nl_none, nl_ti, rz_nil, rz_int, rz_ref, rz_long, cf1, cf2, Option.toList_some, Option.toList_none, List.cons_append, List.nil_append]
    refine aC.of c_clearH ?_
    simp only [eX9_keep_37, eX9_keep_38, fx0, fx1, fx2, fx3, fx4, nl_int, nl_ref, nl_none, nl_ti, rz_nil, rz_int, rz_ref, rz_long, cf1, cf2, Option.toList_some, Option.toList_none, List.cons_append, List.nil_append]
    have c1 : ∀ c, (c < 18 ∨ 18 < c) → c ≠ 82 → c ≠ 83 → (c < 84 + 3 * i ∨ 84 + 3 * i + 2 < c) → su (su (su (su (cpS σ (84 + 3 * i) 15) 82 i (σ 90 0)) 83 i 1) 18 0 0) 18 1 0 c = σ c := fun c h1 h2 h3 h4 => by rw [su_ne (by omega), su_ne (by omega), su_ne h3, su_ne h2, cpS_off h4]
    have c2 : StR w (su (su (su (su (cpS σ (84 + 3 * i) 15) 82 i (σ 90 0)) 83 i 1) 18 0 0) 18 1 0) (84 + 3 * i) (σ 114) := (cpS_St (a := 84 + 3 * i) hS hw6).same (by rw [su_ne (by omega), su_ne (by omega), su_ne (by omega), su_ne (by omega)]) (by rw [su_ne (by omega), su_ne (by omega), su_ne (by omega), su_ne (by omega)]) (by rw [su_ne (by omega), su_ne (by omega), su_ne (by omega), su_ne (by omega)])
    have c3 : ∀ q, su (su (su (su (cpS σ (84 + 3 * i) 15) 82 i (σ 90 0)) 83 i 1) 18 0 0) 18 1 0 82 q = if q = i then σ 90 0 else σ 82 q := fun q => by simp only [su_at, su_ne, sr_eq, sr_ne, ne_eq, Nat.reduceEqDiff, not_false_eq_true, not_true_eq_false, if_true, if_false, cpS_off (show 82 < 84 + 3 * i ∨ 84 + 3 * i + 2 < 82 by omega)]
    have c4 : ∀ q, su (su (su (su (cpS σ (84 + 3 * i) 15) 82 i (σ 90 0)) 83 i 1) 18 0 0) 18 1 0 83 q = if q = i then 1 else σ 83 q := fun q => by simp only [su_at, su_ne, sr_eq, sr_ne, ne_eq, Nat.reduceEqDiff, not_false_eq_true, not_true_eq_false, if_true, if_false, cpS_off (show 83 < 84 + 3 * i ∨ 84 + 3 * i + 2 < 83 by omega)]
    have c5 : su (su (su (su (cpS σ (84 + 3 * i) 15) 82 i (σ 90 0)) 83 i 1) 18 0 0) 18 1 0 18 0 = 0 := by simp only [su_at, su_ne, sr_eq, sr_ne, ne_eq, Nat.reduceEqDiff, not_false_eq_true, not_true_eq_false, if_true, if_false]
    have c6 : su (su (su (su (cpS σ (84 + 3 * i) 15) 82 i (σ 90 0)) 83 i 1) 18 0 0) 18 1 0 18 1 = 0 := by simp only [su_at, su_ne, sr_eq, sr_ne, ne_eq, Nat.reduceEqDiff, not_false_eq_true, not_true_eq_false, if_true, if_false]
    generalize su (su (su (su (cpS σ (84 + 3 * i) 15) 82 i (σ 90 0)) 83 i 1) 18 0 0) 18 1 0 = σ1 at c1 c2 c3 c4 c5 c6 ⊢
    refine hm _ _ 1 o2 ?_
    simp only [eX10_keep_7, eX10_keep_10, eX10_keep_12, eX10_keep_13, eX10_keep_14, fx0, fx1, fx2, fx3, fx4, nl_int, nl_ref, nl_none, nl_ti, rz_nil, rz_int, rz_ref, rz_long, cf1, cf2, Option.toList_some, Option.toList_none, List.cons_append, List.nil_append, show ¬ (1 : Int32) = 0 by decide, if_false]
    have hlast : (20 : Int32) * nI i + 19 = nI (20 * i + 19) := by rw [show (20 : Int32) = nI 20 from rfl, show (19 : Int32) = nI 19 from rfl, pk_mul, nI_add]
    have hin : vp_in (nI (20 * i + 19)) 40 := vin (by omega) (by omega)
    have hcl : (nI (20 * i + 19)).toNatClampNeg = 20 * i + 19 := nic (by omega)
    have hini : vp_in (nI i) 2 := vin (by omega) (by omega)
    have hcli : (nI i).toNatClampNeg = i := nic (by omega)
    have hkl := keep_loop (l := l) (d := d + 29) (Q := fun r2 σ2 => (∃ v : Int32, some (Value.int 1) = some (.int v) ∧ r2 = some (.int v)) ∧ Inv σ2) (τ := σ1) hi ?_ 19 0 (by omega)
    · rw [rng_0, sr_self] at hkl
      exact hkl
    · simp only [eX10_keep_44, eX10_keep_45, eX10_keep_48, eX10_keep_50, eX10_keep_51, eX10_keep_52, eX10_keep_54, eX10_keep_55, eX10_keep_56, eX10_keep_59, eX10_keep_60, eX10_keep_61, eX10_keep_64, eX10_keep_65, eX10_keep_66, eX10_keep_67, eX10_keep_68, eX10_keep_69, eX10_keep_72, eX10_keep_73, fx0, fx1, fx2, fx3, fx4, nl_int, nl_ref, nl_none, nl_ti, rz_nil, rz_int, rz_ref, rz_long, cf1, cf2, Option.toList_some, Option.toList_none, List.cons_append, List.nil_append, su_at, su_ne, sr_eq, sr_ne, ne_eq, Nat.reduceEqDiff, not_false_eq_true, not_true_eq_false, if_true, if_false, hlast, hin, hcl, hini, hcli, true_and, show vp_nar .boolean 1 = 1 by decide +kernel]
      have e109 := c1 109 (by decide) (by decide) (by decide) (by omega)
      have e114 := c1 114 (by decide) (by decide) (by decide) (by omega)
      have e130 := c1 130 (by decide) (by decide) (by decide) (by omega)
      have e131 := c1 131 (by decide) (by decide) (by decide) (by omega)
      refine ⟨⟨1, rfl, rfl⟩, h, w, s, hK.congr (fun c h1 h2 => ?_) (fun c h1 h2 => ?_) (fun k hk => ?_), ⟨?_, ?_⟩, ⟨0, ?_, ⟨by decide, ?_, 0, by decide, ?_, fun j hj => by omega⟩, fun j hj => by omega⟩, fun j hj => ?_, hD.congr ?_ ?_, hE.congr (fun c h1 h2 => ?_) ?_ ?_ ?_, hB.congr (fun c h1 h2 => ?_) ?_ ?_ ?_, hT.congr ?_ ?_ ?_ ?_ ?_⟩
      · rw [su_ne (by omega), su_ne (by omega), su_ne (by omega), sr_ne (by omega), c1 c (by omega) (by omega) (by omega) (by omega)]
      · rw [su_ne (by omega), su_ne (by omega), su_ne (by omega), sr_ne (by omega), c1 c (by omega) (by omega) (by omega) (by omega)]
      · simp only [su_at, su_ne, sr_eq, sr_ne, ne_eq, Nat.reduceEqDiff, not_false_eq_true, not_true_eq_false, if_true, if_false, show k ≠ 26 by omega, e109]
      · simp only [su_at, su_ne, sr_eq, sr_ne, ne_eq, Nat.reduceEqDiff, not_false_eq_true, not_true_eq_false, if_true, if_false, e114]
        refine hS.same ?_ ?_ ?_
        · rw [su_ne (by omega), su_ne (by omega), su_ne (by omega), sr_ne (by omega), c1 15 (by omega) (by omega) (by omega) (by omega)]
        · rw [su_ne (by omega), su_ne (by omega), su_ne (by omega), sr_ne (by omega), c1 _ (by omega) (by omega) (by omega) (by omega)]
        · rw [su_ne (by omega), su_ne (by omega), su_ne (by omega), sr_ne (by omega), c1 _ (by omega) (by omega) (by omega) (by omega)]
      · simp only [su_at, su_ne, sr_eq, sr_ne, ne_eq, Nat.reduceEqDiff, not_false_eq_true, not_true_eq_false, if_true, if_false, e114]
        exact hR
      · simp only [su_at, su_ne, sr_eq, sr_ne, ne_eq, Nat.reduceEqDiff, not_false_eq_true, not_true_eq_false, if_true, if_false]; rfl
      · simp only [su_at, su_ne, sr_eq, sr_ne, ne_eq, Nat.reduceEqDiff, not_false_eq_true, not_true_eq_false, if_true, if_false]; exact c5
      · simp only [su_at, su_ne, sr_eq, sr_ne, ne_eq, Nat.reduceEqDiff, not_false_eq_true, not_true_eq_false, if_true, if_false]; exact c6
      · simp only [su_at, su_ne, sr_eq, sr_ne, ne_eq, Nat.reduceEqDiff, not_false_eq_true, not_true_eq_false, if_true, if_false]
        obtain ⟨g1, g2⟩ := hIm j hj
        have hcell : ∀ c, 84 ≤ c → c ≤ 89 → su (su (su (sr σ1 130 (rng (20 * i) 19 (fun k => σ1 114 (k - 20 * i)) (σ1 130))) 130 (20 * i + 19) (σ1 109 11)) 131 i 1) 109 26 0 c = σ1 c := fun c h1 h2 => by rw [su_ne (by omega), su_ne (by omega), su_ne (by omega), sr_ne (by omega)]
        by_cases hji : j = i
        · subst hji
          simp only [c3, c4, if_true]
          refine ⟨trivial, Or.inr ⟨trivial, ?_, ?_, hD.2, ?_⟩⟩
          · refine c2.congr (fun k hk => by rw [hcell _ (by omega) (by omega)]) (fun k hk => by rw [hcell _ (by omega) (by omega)]) (fun k hk => by rw [hcell _ (by omega) (by omega)]) hw6 (fun k hk => ?_)
            rw [if_neg (by omega)]
            unfold rng
            rw [if_pos (by omega), e114]
            show σ 114 (20 * j + k - 20 * j) = _
            rw [Nat.add_sub_cancel_left]
          · rw [e109]; exact hD.1
          · refine hR.congr hw6 (fun k hk => ?_)
            rw [if_neg (by omega)]
            unfold rng
            rw [if_pos (by omega), e114]
            show σ 114 (20 * j + k - 20 * j) = _
            rw [Nat.add_sub_cancel_left]
        · have hcj : ∀ c, 84 + 3 * j ≤ c → c ≤ 84 + 3 * j + 2 → σ1 c = σ c := fun c h1 h2 => c1 c (by omega) (by omega) (by omega) (by omega)
          have hrj : ∀ k, k ≤ 19 → (if 20 * j + k = 20 * i + 19 then σ1 109 11 else rng (20 * i) 19 (fun k => σ1 114 (k - 20 * i)) (σ1 130) (20 * j + k)) = σ 130 (20 * j + k) := by
            intro k hk
            rw [if_neg (by omega)]
            unfold rng
            rw [if_neg (by omega), e130]
          simp only [c3, c4, hji, if_false, e131]
          refine ⟨g1, ?_⟩
          rcases g2 with g2 | ⟨g2, g3, g4, g5, g6⟩
          · exact Or.inl g2
          · refine Or.inr ⟨g2, ?_, ?_, g5, ?_⟩
            · refine g3.congr (fun k hk => by rw [hcell _ (by omega) (by omega), hcj _ (by omega) (by omega)]) (fun k hk => by rw [hcell _ (by omega) (by omega), hcj _ (by omega) (by omega)]) (fun k hk => by rw [hcell _ (by omega) (by omega), hcj _ (by omega) (by omega)]) hw6 (fun k hk => hrj k (by omega))
            · rw [if_neg (by omega)]
              unfold rng
              rw [if_neg (by omega), e130]
              exact g4
            · exact g6.congr hw6 (fun k hk => hrj k (by omega))
      · rw [su_ne (by omega), su_ne (by omega), su_ne (by omega), sr_ne (by omega), c1 90 (by omega) (by omega) (by omega) (by omega)]
      · simp only [su_at, su_ne, sr_eq, sr_ne, ne_eq, Nat.reduceEqDiff, not_false_eq_true, not_true_eq_false, if_true, if_false, e109]
      · rw [su_ne (by omega), su_ne (by omega), su_ne (by omega), sr_ne (by omega), c1 c (by omega) (by omega) (by omega) (by omega)]
      · simp only [su_at, su_ne, sr_eq, sr_ne, ne_eq, Nat.reduceEqDiff, not_false_eq_true, not_true_eq_false, if_true, if_false, e109]
      · rw [su_ne (by omega), su_ne (by omega), su_ne (by omega), sr_ne (by omega), c1 _ (by omega) (by omega) (by omega) (by omega)]
      · rw [su_ne (by omega), su_ne (by omega), su_ne (by omega), sr_ne (by omega), c1 _ (by omega) (by omega) (by omega) (by omega)]
      · rw [su_ne (by omega), su_ne (by omega), su_ne (by omega), sr_ne (by omega), c1 c (by omega) (by omega) (by omega) (by omega)]
      · simp only [su_at, su_ne, sr_eq, sr_ne, ne_eq, Nat.reduceEqDiff, not_false_eq_true, not_true_eq_false, if_true, if_false, e109]
      · rw [su_ne (by omega), su_ne (by omega), su_ne (by omega), sr_ne (by omega), c1 _ (by omega) (by omega) (by omega) (by omega)]
      · rw [su_ne (by omega), su_ne (by omega), su_ne (by omega), sr_ne (by omega), c1 _ (by omega) (by omega) (by omega) (by omega)]
      · rw [su_ne (by omega), su_ne (by omega), su_ne (by omega), sr_ne (by omega), c1 _ (by omega) (by omega) (by omega) (by omega)]
      · rw [su_ne (by omega), su_ne (by omega), su_ne (by omega), sr_ne (by omega), c1 _ (by omega) (by omega) (by omega) (by omega)]
      · simp only [su_at, su_ne, sr_eq, sr_ne, ne_eq, Nat.reduceEqDiff, not_false_eq_true, not_true_eq_false, if_true, if_false, e109]
      · simp only [su_at, su_ne, sr_eq, sr_ne, ne_eq, Nat.reduceEqDiff, not_false_eq_true, not_true_eq_false, if_true, if_false, e109]
      · rw [su_ne (by omega), su_ne (by omega), su_ne (by omega), sr_ne (by omega), c1 _ (by omega) (by omega) (by omega) (by omega)]
  · rw [z1]
    simp only [eX9_keep_8, eX9_keep_11, eX9_keep_13, fx0, fx1, fx2, fx3, fx4, nl_int, nl_ref, nl_none, nl_ti, rz_nil, rz_int, rz_ref, rz_long, cf1, cf2, Option.toList_some, Option.toList_none, List.cons_append, List.nil_append, if_true]
    refine hm _ _ 0 z2 ?_
    simp only [eX10_keep_7, eX10_keep_10, eX10_keep_12, fx0, fx1, fx2, fx3, fx4, nl_int, nl_ref, nl_none, nl_ti, rz_nil, rz_int, rz_ref, rz_long, cf1, cf2, Option.toList_some, Option.toList_none, List.cons_append, List.nil_append, if_true]
    exact ⟨⟨_, rfl, rfl⟩, hI0⟩
theorem back_loop {Q : Option Value → aW → Prop} {τ : aW} {i : Nat} (hi : i < 2) (hk : aE l d none 10 cX10_goBack (some .int) Q 56 [some (.ref 109), some (.int (nI i)), some (.int (nI 19))] [] (sr τ 114 (pre 19 (fun k => τ 130 (20 * i + k)) (τ 114)))) : ∀ n p, p + n = 19 → aE l d none 10 cX10_goBack (some .int) Q 27 [some (.ref 109), some (.int (nI i)), some (.int (nI p))] [] (sr τ 114 (pre p (fun k => τ 130 (20 * i + k)) (τ 114))) := by
  intro n
  induction n with
  | zero =>
    intro p hp
    have hp : p = 19 := by omega
    subst hp
    rw [eX10_goBack_27]
    simp only [eX10_goBack_28, eX10_goBack_30, show (19 : Int32) ≤ nI 19 by decide, if_true]
    exact hk
  | succ n ih =>
    intro p hp
    have h2 : ¬ (19 : Int32) ≤ nI p := by rw [show (19 : Int32) = nI 19 from rfl, nile (by omega) (by omega)]; omega
    have hs : (20 : Int32) * nI i + nI p = nI (20 * i + p) := by rw [show (20 : Int32) = nI 20 from rfl, pk_mul, nI_add]
    have hin : vp_in (nI p) 19 := vin (by omega) (by omega)
    have hin2 : vp_in (nI (20 * i + p)) 40 := vin (by omega) (by omega)
    have hcl : (nI p).toNatClampNeg = p := nic (by omega)
    have hcl2 : (nI (20 * i + p)).toNatClampNeg = 20 * i + p := nic (by omega)
    have hinc : nI p + 1 = nI (p + 1) := nI_1 p
    rw [eX10_goBack_27]
    simp only [eX10_goBack_28, eX10_goBack_30, eX10_goBack_33, eX10_goBack_34, eX10_goBack_37, eX10_goBack_38, eX10_goBack_39, eX10_goBack_42, eX10_goBack_44, eX10_goBack_45, eX10_goBack_46, eX10_goBack_47, eX10_goBack_48, eX10_goBack_49, eX10_goBack_50, eX10_goBack_53, fx0, fx1, fx2, fx3, fx4, nl_int, nl_ref, nl_none, nl_ti, rz_nil, rz_int, rz_ref, rz_long, cf1, cf2, Option.toList_some, Option.toList_none, List.cons_append, List.nil_append, su_at, su_ne, sr_eq, sr_ne, ne_eq, Nat.reduceEqDiff, not_false_eq_true, not_true_eq_false, if_true, if_false, h2, hs, hin, hin2, hcl, hcl2, hinc, true_and]
    rw [pre_step (h := fun k => τ 130 (20 * i + k)) rfl]
    exact ih (p + 1) (by omega)
theorem op_goBack (hI : Inv σ) (x : Int32) : Pair l (d + 30) 88 152 [.int x] σ := by
  have hI0 := hI
  obtain ⟨h, w, s, hK, ⟨hS, hR⟩, hH, hIm, hD, hE, hB, hT⟩ := hI
  have hw6 : w ≤ 6 := hK.1.2.2
  refine aC_of rfl (Nat.le_of_ble_eq_true rfl) ?_
  show aE l (d + 29) none 9 cX9_goBack (some .int) _ 0 [some (.ref 0), some (.int x)] [] σ
  simp only [eX9_goBack_0, eX9_goBack_1, eX9_goBack_4, eX9_goBack_5, fx0, fx1, fx2, fx3, fx4, nl_int, nl_ref, nl_none, nl_ti, rz_nil, rz_int, rz_ref, rz_long, cf1, cf2, Option.toList_some, Option.toList_none, List.cons_append, List.nil_append]
  refine aC.of c_hasPlace ?_
  have hm : ∀ (τ : aW) (P : Option Value → aW → Prop) (v : Int32), inB x.toInt64 0 1 = v → aE l (d + 29) none 10 cX10_goBack (some .int) P 7 [some (.ref 109), some (.int x), none] [.int v] τ → aC l (d + 30) 152 [.ref 109, .int x] τ P := by
    intro τ P v hv hP
    refine aC_of rfl (Nat.le_of_ble_eq_true rfl) ?_
    show aE l (d + 29) none 10 cX10_goBack (some .int) _ 0 [some (.ref 109), some (.int x), none] [] τ
    simp only [eX10_goBack_0, eX10_goBack_1, eX10_goBack_2, eX10_goBack_3, eX10_goBack_4, fx0, fx1, fx2, fx3, fx4, nl_int, nl_ref, nl_none, nl_ti, rz_nil, rz_int, rz_ref, rz_long, cf1, cf2, Option.toList_some, Option.toList_none, List.cons_append, List.nil_append]
    refine aC.of m_in ?_
    rw [hv]
    exact hP
  rcases img x with ⟨i, hi, rfl⟩ | ⟨z1, z2⟩
  · obtain ⟨o1, o2⟩ := img1 hi
    obtain ⟨g1, g2⟩ := hIm i hi
    have hini : vp_in (nI i) 2 := vin (by omega) (by omega)
    have hcli : (nI i).toNatClampNeg = i := nic (by omega)
    rw [o1]
    simp only [eX9_goBack_8, eX9_goBack_11, eX9_goBack_13, eX9_goBack_14, eX9_goBack_15, eX9_goBack_18, eX9_goBack_19, eX9_goBack_20, eX9_goBack_23, eX9_goBack_24, eX9_goBack_27, fx0, fx1, fx2, fx3, fx4, nl_int, nl_ref, nl_none, nl_ti, rz_nil, rz_int, rz_ref, rz_long, cf1, cf2, Option.toList_some, Option.toList_none, List.cons_append, List.nil_append, show ¬ (1 : Int32) = 0 by decide, if_false]
    rcases g2 with g2 | ⟨g2, g3, g4, g5, g6⟩
    · refine aC.of (c_load0 hi (g1.trans g2)) ?_
      simp only [eX9_goBack_30, eX9_goBack_33, eX9_goBack_35, fx0, fx1, fx2, fx3, fx4, nl_int, nl_ref, nl_none, nl_ti, rz_nil, rz_int, rz_ref, rz_long, cf1, cf2, Option.toList_some, Option.toList_none, List.cons_append, List.nil_append, if_true]
      refine hm _ _ 1 o2 ?_
      simp only [eX10_goBack_7, eX10_goBack_10, eX10_goBack_12, eX10_goBack_13, eX10_goBack_14, eX10_goBack_17, eX10_goBack_18, eX10_goBack_19, eX10_goBack_22, eX10_goBack_24, fx0, fx1, fx2, fx3, fx4, nl_int, nl_ref, nl_none, nl_ti, rz_nil, rz_int, rz_ref, rz_long, cf1, cf2, Option.toList_some, Option.toList_none, List.cons_append, List.nil_append, show ¬ (1 : Int32) = 0 by decide, if_false, hini, hcli, g2, if_true, true_and]
      exact ⟨⟨_, rfl, rfl⟩, hI0⟩
    · refine aC.of (c_load hi (by rw [g1, g2]; decide)) ?_
      simp only [eX9_goBack_30, eX9_goBack_33, eX9_goBack_35, eX9_goBack_36, eX9_goBack_37, eX9_goBack_40, fx0, fx1, fx2, fx3, fx4, nl_int, nl_ref, nl_none, nl_ti, rz_nil, rz_int, rz_ref, rz_long, cf1, cf2, Option.toList_some, Option.toList_none, List.cons_append, List.nil_append, show ¬ (1 : Int32) = 0 by decide, if_false]
      refine aC.of c_clearH ?_
      simp only [eX9_goBack_43, eX9_goBack_44, fx0, fx1, fx2, fx3, fx4, nl_int, nl_ref, nl_none, nl_ti, rz_nil, rz_int, rz_ref, rz_long, cf1, cf2, Option.toList_some, Option.toList_none, List.cons_append, List.nil_append]
      have c1 : ∀ c, (c < 15 ∨ 18 < c) → c ≠ 90 → su (su (su (cpS σ 15 (84 + 3 * i)) 90 0 (σ 82 i)) 18 0 0) 18 1 0 c = σ c := fun c h1 h2 => by rw [su_ne (by omega), su_ne (by omega), su_ne h2, cpS_off (by omega)]
      have c2 : StR w (su (su (su (cpS σ 15 (84 + 3 * i)) 90 0 (σ 82 i)) 18 0 0) 18 1 0) 15 (fun k => σ 130 (20 * i + k)) := (cpS_St (a := 15) g3 hw6).same (by rw [su_ne (by omega), su_ne (by omega), su_ne (by omega)]) (by rw [su_ne (by omega), su_ne (by omega), su_ne (by omega)]) (by rw [su_ne (by omega), su_ne (by omega), su_ne (by omega)])
      have c3 : su (su (su (cpS σ 15 (84 + 3 * i)) 90 0 (σ 82 i)) 18 0 0) 18 1 0 90 0 = σ 82 i := by simp only [su_at, su_ne, sr_eq, sr_ne, ne_eq, Nat.reduceEqDiff, not_false_eq_true, not_true_eq_false, if_true, if_false]
      have c5 : su (su (su (cpS σ 15 (84 + 3 * i)) 90 0 (σ 82 i)) 18 0 0) 18 1 0 18 0 = 0 := by simp only [su_at, su_ne, sr_eq, sr_ne, ne_eq, Nat.reduceEqDiff, not_false_eq_true, not_true_eq_false, if_true, if_false]
      have c6 : su (su (su (cpS σ 15 (84 + 3 * i)) 90 0 (σ 82 i)) 18 0 0) 18 1 0 18 1 = 0 := by simp only [su_at, su_ne, sr_eq, sr_ne, ne_eq, Nat.reduceEqDiff, not_false_eq_true, not_true_eq_false, if_true, if_false]
      generalize su (su (su (cpS σ 15 (84 + 3 * i)) 90 0 (σ 82 i)) 18 0 0) 18 1 0 = σ1 at c1 c2 c3 c5 c6 ⊢
      have e109 := c1 109 (by decide) (by decide)
      have e114 := c1 114 (by decide) (by decide)
      have e130 := c1 130 (by decide) (by decide)
      have e131 := c1 131 (by decide) (by decide)
      refine hm _ _ 1 o2 ?_
      simp only [eX10_goBack_7, eX10_goBack_10, eX10_goBack_12, eX10_goBack_13, eX10_goBack_14, eX10_goBack_17, eX10_goBack_18, eX10_goBack_19, eX10_goBack_22, eX10_goBack_24, eX10_goBack_25, eX10_goBack_26, fx0, fx1, fx2, fx3, fx4, nl_int, nl_ref, nl_none, nl_ti, rz_nil, rz_int, rz_ref, rz_long, cf1, cf2, Option.toList_some, Option.toList_none, List.cons_append, List.nil_append, show ¬ (1 : Int32) = 0 by decide, if_false, hini, hcli, e131, g2, true_and]
      have hlast : (20 : Int32) * nI i + 19 = nI (20 * i + 19) := by rw [show (20 : Int32) = nI 20 from rfl, show (19 : Int32) = nI 19 from rfl, pk_mul, nI_add]
      have hin : vp_in (nI (20 * i + 19)) 40 := vin (by omega) (by omega)
      have hcl : (nI (20 * i + 19)).toNatClampNeg = 20 * i + 19 := nic (by omega)
      have hkl := back_loop (l := l) (d := d + 29) (Q := fun r2 σ2 => (∃ v : Int32, some (Value.int 1) = some (.int v) ∧ r2 = some (.int v)) ∧ Inv σ2) (τ := σ1) hi ?_ 19 0 (by omega)
      · rw [pre_0, sr_self] at hkl
        exact hkl
      · simp only [eX10_goBack_56, eX10_goBack_57, eX10_goBack_58, eX10_goBack_61, eX10_goBack_63, eX10_goBack_64, eX10_goBack_65, eX10_goBack_67, eX10_goBack_68, eX10_goBack_69, eX10_goBack_72, eX10_goBack_73, eX10_goBack_74, eX10_goBack_77, eX10_goBack_78, fx0, fx1, fx2, fx3, fx4, nl_int, nl_ref, nl_none, nl_ti, rz_nil, rz_int, rz_ref, rz_long, cf1, cf2, Option.toList_some, Option.toList_none, List.cons_append, List.nil_append, su_at, su_ne, sr_eq, sr_ne, ne_eq, Nat.reduceEqDiff, not_false_eq_true, not_true_eq_false, if_true, if_false, hlast, hin, hcl, true_and]
        rw [e130, e114]
        have f : ∀ c, (c < 15 ∨ 18 < c) → c ≠ 90 → c ≠ 109 → c ≠ 114 → su (su (sr σ1 114 (pre 19 (fun k => σ 130 (20 * i + k)) (σ 114))) 109 11 (σ 130 (20 * i + 19))) 109 26 0 c = σ c := fun c h1 h2 h3 h4 => by rw [su_ne h3, su_ne h3, sr_ne h4, c1 c h1 h2]
        have f109 : ∀ k, k ≠ 26 → k ≠ 11 → su (su (sr σ1 114 (pre 19 (fun k => σ 130 (20 * i + k)) (σ 114))) 109 11 (σ 130 (20 * i + 19))) 109 26 0 109 k = σ 109 k := fun k h1 h2 => by simp only [su_at, su_ne, sr_eq, sr_ne, ne_eq, Nat.reduceEqDiff, not_false_eq_true, not_true_eq_false, if_true, if_false, h1, h2, e109]
        have fc : ∀ c, c < 109 → su (su (sr σ1 114 (pre 19 (fun k => σ 130 (20 * i + k)) (σ 114))) 109 11 (σ 130 (20 * i + 19))) 109 26 0 c = σ1 c := fun c h1 => by rw [su_ne (by omega), su_ne (by omega), sr_ne (by omega)]
        have hrow : ∀ k, k < 19 → su (su (sr σ1 114 (pre 19 (fun k => σ 130 (20 * i + k)) (σ 114))) 109 11 (σ 130 (20 * i + 19))) 109 26 0 114 k = σ 130 (20 * i + k) := fun k hk => by rw [su_ne (by omega), su_ne (by omega), sr_eq]; exact if_pos hk
        have f26 : su (su (sr σ1 114 (pre 19 (fun k => σ 130 (20 * i + k)) (σ 114))) 109 11 (σ 130 (20 * i + 19))) 109 26 0 109 26 = 0 := by simp only [su_at, su_ne, sr_eq, sr_ne, ne_eq, Nat.reduceEqDiff, not_false_eq_true, not_true_eq_false, if_true, if_false]
        have f11 : su (su (sr σ1 114 (pre 19 (fun k => σ 130 (20 * i + k)) (σ 114))) 109 11 (σ 130 (20 * i + 19))) 109 26 0 109 11 = σ 130 (20 * i + 19) := by simp only [su_at, su_ne, sr_eq, sr_ne, ne_eq, Nat.reduceEqDiff, not_false_eq_true, not_true_eq_false, if_true, if_false]
        generalize su (su (sr σ1 114 (pre 19 (fun k => σ 130 (20 * i + k)) (σ 114))) 109 11 (σ 130 (20 * i + 19))) 109 26 0 = σ2 at f f109 fc hrow f26 f11 ⊢
        refine ⟨⟨1, rfl, rfl⟩, h, w, s, hK.congr (fun c h1 h2 => f c (by omega) (by omega) (by omega) (by omega)) (fun c h1 h2 => f c (by omega) (by omega) (by omega) (by omega)) (fun k hk => f109 k (by omega) (by omega)), ⟨c2.congr (fun k hk => by rw [fc _ (by decide)]) (fun k hk => by rw [fc _ (by decide)]) (fun k hk => by rw [fc _ (by decide)]) hw6 hrow, g6.congr hw6 hrow⟩, ⟨0, f26, ⟨by decide, by rw [fc 18 (by decide)]; exact c5, 0, by decide, by rw [fc 18 (by decide)]; exact c6, fun j hj => by omega⟩, fun j hj => by omega⟩, hIm.congr (fun c h1 h2 => f c (by omega) (by omega) (by omega) (by omega)) (f 130 (by decide) (by decide) (by decide) (by decide)) (f 131 (by decide) (by decide) (by decide) (by decide)), ⟨by rw [fc 90 (by decide), c3, f11]; exact g4, by rw [fc 90 (by decide), c3]; exact g5⟩, hE.congr (fun c h1 h2 => f c (by omega) (by omega) (by omega) (by omega)) (f109 32 (by decide) (by decide)) (f 126 (by decide) (by decide) (by decide) (by decide)) (f 127 (by decide) (by decide) (by decide) (by decide)), hB.congr (fun c h1 h2 => f c (by omega) (by omega) (by omega) (by omega)) (f109 35 (by decide) (by decide)) (f 128 (by decide) (by decide) (by decide) (by decide)) (f 129 (by decide) (by decide) (by decide) (by decide)), hT.congr (f 1 (by decide) (by decide) (by decide) (by decide)) (f 8 (by decide) (by decide) (by decide) (by decide)) (f109 13 (by decide) (by decide)) (f109 14 (by decide) (by decide)) (f 115 (by decide) (by decide) (by decide) (by decide))⟩
  · rw [z1]
    simp only [eX9_goBack_8, eX9_goBack_11, eX9_goBack_13, fx0, fx1, fx2, fx3, fx4, nl_int, nl_ref, nl_none, nl_ti, rz_nil, rz_int, rz_ref, rz_long, cf1, cf2, Option.toList_some, Option.toList_none, List.cons_append, List.nil_append, if_true]
    refine hm _ _ 0 z2 ?_
    simp only [eX10_goBack_7, eX10_goBack_10, eX10_goBack_12, fx0, fx1, fx2, fx3, fx4, nl_int, nl_ref, nl_none, nl_ti, rz_nil, rz_int, rz_ref, rz_long, cf1, cf2, Option.toList_some, Option.toList_none, List.cons_append, List.nil_append, if_true]
    exact ⟨⟨_, rfl, rfl⟩, hI0⟩
end O6
