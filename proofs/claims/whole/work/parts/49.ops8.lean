/-! drift -/
theorem rowH_congr {w s : Nat} {μ : aW} {set rung : Int32} {r r' : Nat → Int32} (hw : w ≤ 6) (h : ∀ k, k < 19 → r k = r' k) : ∀ k, k < 19 → rowH w s μ set rung r k = rowH w s μ set rung r' k := by
  have eN : rN w μ set rung r = rN w μ set rung r' := nodS_congr rfl w (fun q hq => ⟨rfl, rfl, rfl, h q (by omega)⟩)
  have eU : rU w s μ set rung r = rU w s μ set rung r' := by unfold rU; rw [eN]
  have eW : rW w μ set rung r = rW w μ set rung r' := by unfold rW; rw [eN]
  intro k hk
  unfold rowH rT
  rw [eN, eU, eW, h k hk, h 12 (by decide), h 13 (by decide), h 14 (by decide), h 17 (by decide), h 18 (by decide)]
section O8
variable {l : Launch} {d : Nat} {σ : aW}
theorem drift_c {Q : Option Value → aW → Prop} {h w s N : Nat} {μ τ : aW} {r : Nat → Int32} {v rf9 : Int32} (hN : N ≤ 60) (hh : 0 < h) (hKτ : KC h w s μ τ) (hv : ∀ k, k ≤ 60 → ¬ (itD w s μ k (r, v)).2 < 0)
    (hk : ∀ σ' t4 t5, StR w σ' 15 (itD w s μ N (r, v)).1 → σ' 90 0 = (itD w s μ N (r, v)).2 → (∀ c, c ≠ 15 → c ≠ 16 → c ≠ 17 → c ≠ 90 → σ' c = τ c) → aE l (d + 5) none 9 cX9_drift (some .int) Q 94 [some (.ref 0), some (.int (nI N)), some (.int rf9), some (.int (nI N)), ti t4, ti t5] [] σ') : ∀ m k σk t4 t5, k + m = N → StR w σk 15 (itD w s μ k (r, v)).1 → σk 90 0 = (itD w s μ k (r, v)).2 → (∀ c, c ≠ 15 → c ≠ 16 → c ≠ 17 → c ≠ 90 → σk c = τ c) → aE l (d + 5) none 9 cX9_drift (some .int) Q 26 [some (.ref 0), some (.int (nI N)), some (.int rf9), some (.int (nI k)), ti t4, ti t5] [] σk := by
  intro m
  induction m with
  | zero =>
    intro k σk t4 t5 hkN hs hsd hf
    have hkN : k = N := by omega
    subst hkN
    have h1 : nI k ≤ nI k := (nile (by omega) (by omega)).mpr (Nat.le_refl k)
    rw [eX9_drift_26]
    simp only [eX9_drift_27, eX9_drift_28, fx0, fx1, fx2, fx3, fx4, nl_int, nl_ref, nl_none, nl_ti, rz_nil, rz_int, rz_ref, rz_long, cf1, cf2, Option.toList_some, Option.toList_none, List.cons_append, List.nil_append, h1, if_true]
    exact hk σk t4 t5 hs hsd hf
  | succ m ih =>
    intro k σk t4 t5 hkN hs hsd hf
    have h1 : ¬ nI N ≤ nI k := by rw [nile (by omega) (by omega)]; omega
    have h2 : ¬ (60 : Int32) ≤ nI k := by rw [show (60 : Int32) = nI 60 from rfl, nile (by omega) (by omega)]; omega
    have hK2 : KC h w s μ σk := KC.congr hKτ (fun c h1 h2 => hf c (by omega) (by omega) (by omega) (by omega))
    have hw6 : w ≤ 6 := hK2.1.2.2
    have hv0 := hv k (by omega)
    obtain ⟨d1, d2⟩ := dr_ok hv0
    obtain ⟨d3, d4⟩ := dr_ok d2
    obtain ⟨ms, hms, ems⟩ := dset_lt hw6 hv0
    have hpos : (0 : Int32) < 1 <<< (nI w &&& 31) := by
      rw [shl6 w hw6, show (0 : Int32) = nI 0 from rfl, nI_ltI (by decide)]
      · exact Nat.two_pow_pos w
      · have : 2 ^ w ≤ 2 ^ 6 := Nat.pow_le_pow_right (by decide) hw6
        omega
    rw [eX9_drift_26]
    simp only [eX9_drift_27, eX9_drift_28, eX9_drift_31, eX9_drift_32, eX9_drift_34, eX9_drift_37, eX9_drift_38, eX9_drift_41, eX9_drift_42, eX9_drift_43, eX9_drift_46, eX9_drift_49, eX9_drift_50, fx0, fx1, fx2, fx3, fx4, nl_int, nl_ref, nl_none, nl_ti, rz_nil, rz_int, rz_ref, rz_long, cf1, cf2, Option.toList_some, Option.toList_none, List.cons_append, List.nil_append, h1, h2, if_false, hK2.1.1]
    refine aC.of (c_draw hpos) ?_
    rw [hsd, d1]
    simp only [eX9_drift_53, eX9_drift_55, eX9_drift_56, eX9_drift_59, eX9_drift_60, fx0, fx1, fx2, fx3, fx4, nl_int, nl_ref, nl_none, nl_ti, rz_nil, rz_int, rz_ref, rz_long, cf1, cf2, Option.toList_some, Option.toList_none, List.cons_append, List.nil_append]
    refine aC.of (c_draw (by decide)) ?_
    simp only [su_at, su_ne, sr_eq, sr_ne, ne_eq, Nat.reduceEqDiff, not_false_eq_true, not_true_eq_false, if_true, if_false]
    rw [d3]
    have hset : drM (itD w s μ k (r, v)).2 / 65536 - drM (itD w s μ k (r, v)).2 / 65536 / ((1 : Int32) <<< (nI w &&& 31)) * ((1 : Int32) <<< (nI w &&& 31)) = nI ms := ems
    have key : ∀ rg : Int32, rg = drung (itD w s μ k (r, v)).2 → aE l (d + 5) none 9 cX9_drift (some .int) Q 71 [some (.ref 0), some (.int (nI N)), some (.int rf9), some (.int (nI k)), some (.int (nI ms)), ti t5] [.int rg] (su (su σk 90 0 (drM (itD w s μ k (r, v)).2)) 90 0 (drM (drM (itD w s μ k (r, v)).2))) := by
      intro rg hrg
      simp only [eX9_drift_71, eX9_drift_73, eX9_drift_74, eX9_drift_77, eX9_drift_78, eX9_drift_81, eX9_drift_83, eX9_drift_85, fx0, fx1, fx2, fx3, fx4, nl_int, nl_ref, nl_none, nl_ti, rz_nil, rz_int, rz_ref, rz_long, cf1, cf2, Option.toList_some, Option.toList_none, List.cons_append, List.nil_append]
      have hK3 : KC h w s μ (su (su σk 90 0 (drM (itD w s μ k (r, v)).2)) 90 0 (drM (drM (itD w s μ k (r, v)).2))) := KC.congr hK2 (fun c h1 h2 => by rw [su_ne (by omega), su_ne (by omega)])
      have hS3 : StR w (su (su σk 90 0 (drM (itD w s μ k (r, v)).2)) 90 0 (drM (drM (itD w s μ k (r, v)).2))) 15 (itD w s μ k (r, v)).1 := hs.same (by rw [su_ne (by omega), su_ne (by omega)]) (by rw [su_ne (by omega), su_ne (by omega)]) (by rw [su_ne (by omega), su_ne (by omega)])
      refine (c_passWatched hK3.1.1 hw6 hK3.2.1.1 hK3.2.1.2.2 (by rw [hK3.2.2.1.2.1]; exact nI_nle hh (by have := hK3.2.2.1.1; omega))).mono ?_
      rintro ro σ' ⟨rfl, hp⟩
      simp only [eX9_drift_88, eX9_drift_91, fx0, fx1, fx2, fx3, fx4, nl_int, nl_ref, nl_none, nl_ti, rz_nil, rz_int, rz_ref, rz_long, cf1, cf2, Option.toList_some, Option.toList_none, List.cons_append, List.nil_append, nI_1]
      refine ih (k + 1) σ' (some (nI ms)) (some rg) (by omega) ?_ ?_ (fun c h1 h2 h3 h4 => by rw [hp.1 c h1 h2 h3, su_ne h4, su_ne h4, hf c h1 h2 h3 h4])
      · have := hour_St hK3 hS3 hms hp
        show StR w σ' 15 (rowH w s μ (dset w (itD w s μ k (r, v)).2) (drung (itD w s μ k (r, v)).2) (itD w s μ k (r, v)).1)
        rw [ems, ← hrg]
        exact this
      · rw [hp.1 90 (by decide) (by decide) (by decide), su_eq]
        rfl
    by_cases hz : remI (drM (drM (itD w s μ k (r, v)).2) / 65536) 3 = 0
    · have hz9 : drM (drM (itD w s μ k (r, v)).2) / 65536 - drM (drM (itD w s μ k (r, v)).2) / 65536 / 3 * 3 = 0 := hz
      simp only [eX9_drift_63, eX9_drift_66, eX9_drift_67, fx0, fx1, fx2, fx3, fx4, nl_int, nl_ref, nl_none, nl_ti, rz_nil, rz_int, rz_ref, rz_long, cf1, cf2, Option.toList_some, Option.toList_none, List.cons_append, List.nil_append, hz9, if_true, hset]
      exact key 1 (by unfold drung; rw [if_pos hz])
    · have hz9 : ¬ drM (drM (itD w s μ k (r, v)).2) / 65536 - drM (drM (itD w s μ k (r, v)).2) / 65536 / 3 * 3 = 0 := hz
      simp only [eX9_drift_63, eX9_drift_66, eX9_drift_67, eX9_drift_70, fx0, fx1, fx2, fx3, fx4, nl_int, nl_ref, nl_none, nl_ti, rz_nil, rz_int, rz_ref, rz_long, cf1, cf2, Option.toList_some, Option.toList_none, List.cons_append, List.nil_append, hz9, if_false, hset]
      exact key 0 (by unfold drung; rw [if_neg hz])
theorem drift_m {Q : Option Value → aW → Prop} {h w s N : Nat} {μ τ : aW} {r : Nat → Int32} {v rf9 : Int32} (hN : N ≤ 60) (hh : 0 < h) (hKM : KM μ τ) (hK : KC h w s μ σ)
    (hk : ∀ σ' t4, (∀ k, k < 19 → σ' 114 k = (itD w s μ N (r, v)).1 k) → σ' 109 11 = (itD w s μ N (r, v)).2 → (∀ c, c ≠ 114 → c ≠ 109 → σ' c = τ c) → (∀ k, k ≠ 11 → σ' 109 k = τ 109 k) → aE l (d + 5) none 10 cX10_drift (some .int) Q 60 [some (.ref 109), some (.int (nI N)), some (.int rf9), some (.int (nI N)), ti t4] [] σ') : ∀ m k σk t4, k + m = N → (∀ j, j < 19 → σk 114 j = (itD w s μ k (r, v)).1 j) → σk 109 11 = (itD w s μ k (r, v)).2 → (∀ c, c ≠ 114 → c ≠ 109 → σk c = τ c) → (∀ k, k ≠ 11 → σk 109 k = τ 109 k) → aE l (d + 5) none 10 cX10_drift (some .int) Q 18 [some (.ref 109), some (.int (nI N)), some (.int rf9), some (.int (nI k)), ti t4] [] σk := by
  have hw6 : w ≤ 6 := hK.1.2.2
  intro m
  induction m with
  | zero =>
    intro k σk t4 hkN hs hsd hf hg
    have hkN : k = N := by omega
    subst hkN
    have h1 : nI k ≤ nI k := (nile (by omega) (by omega)).mpr (Nat.le_refl k)
    rw [eX10_drift_18]
    simp only [eX10_drift_19, eX10_drift_20, fx0, fx1, fx2, fx3, fx4, nl_int, nl_ref, nl_none, nl_ti, rz_nil, rz_int, rz_ref, rz_long, cf1, cf2, Option.toList_some, Option.toList_none, List.cons_append, List.nil_append, h1, if_true]
    exact hk σk t4 hs hsd hf hg
  | succ m ih =>
    intro k σk t4 hkN hs hsd hf hg
    have h1 : ¬ nI N ≤ nI k := by rw [nile (by omega) (by omega)]; omega
    have m4 : σk 109 4 = nI w := by rw [hg 4 (by decide), hKM.1 4 (by decide)]; exact hK.1.2.1
    have m8 : σk 109 8 = nI s := by rw [hg 8 (by decide), hKM.1 8 (by decide)]; exact hK.2.1.2.1
    have m0 : ¬ σk 109 0 = 0 := by rw [hg 0 (by decide), hKM.1 0 (by decide), hK.2.2.1.2.2.1]; exact nI_ne0 hh (by have := hK.2.2.1.1; omega)
    have hne : ¬ (1 : Int32) <<< (nI w &&& 31) = 0 := by
      rw [shl6 w hw6]
      refine nI_ne0 (Nat.two_pow_pos w) ?_
      have : 2 ^ w ≤ 2 ^ 6 := Nat.pow_le_pow_right (by decide) hw6
      omega
    rw [eX10_drift_18]
    simp only [eX10_drift_19, eX10_drift_20, eX10_drift_23, eX10_drift_24, eX10_drift_25, eX10_drift_26, eX10_drift_29, eX10_drift_30, fx0, fx1, fx2, fx3, fx4, nl_int, nl_ref, nl_none, nl_ti, rz_nil, rz_int, rz_ref, rz_long, cf1, cf2, Option.toList_some, Option.toList_none, List.cons_append, List.nil_append, h1, if_false, m4]
    refine aC.of (m_draw hne) ?_
    rw [hsd]
    simp only [eX10_drift_33, eX10_drift_35, eX10_drift_36, eX10_drift_38, eX10_drift_39, eX10_drift_40, fx0, fx1, fx2, fx3, fx4, nl_int, nl_ref, nl_none, nl_ti, rz_nil, rz_int, rz_ref, rz_long, cf1, cf2, Option.toList_some, Option.toList_none, List.cons_append, List.nil_append]
    refine aC.of (m_draw (by decide)) ?_
    simp only [su_at, su_ne, sr_eq, sr_ne, ne_eq, Nat.reduceEqDiff, not_false_eq_true, not_true_eq_false, if_true, if_false]
    have hset : drM (itD w s μ k (r, v)).2 / 65536 - drM (itD w s μ k (r, v)).2 / 65536 / ((1 : Int32) <<< (nI w &&& 31)) * ((1 : Int32) <<< (nI w &&& 31)) = dset w (itD w s μ k (r, v)).2 := rfl
    have key : ∀ rg : Int32, rg = drung (itD w s μ k (r, v)).2 → aE l (d + 5) none 10 cX10_drift (some .int) Q 51 [some (.ref 109), some (.int (nI N)), some (.int rf9), some (.int (nI k)), some (.int (dset w (itD w s μ k (r, v)).2))] [.int rg, .int (dset w (itD w s μ k (r, v)).2), .ref 109] (su (su σk 109 11 (drM (itD w s μ k (r, v)).2)) 109 11 (drM (drM (itD w s μ k (r, v)).2))) := by
      intro rg hrg
      simp only [eX10_drift_51, fx0, fx1, fx2, fx3, fx4, nl_int, nl_ref, nl_none, nl_ti, rz_nil, rz_int, rz_ref, rz_long, cf1, cf2, Option.toList_some, Option.toList_none, List.cons_append, List.nil_append]
      refine (m_hourBy (w := w) (s := s) (by simp only [su_at, su_ne, sr_eq, sr_ne, ne_eq, Nat.reduceEqDiff, not_false_eq_true, not_true_eq_false, if_true, if_false]; exact m4) hw6 (by simp only [su_at, su_ne, sr_eq, sr_ne, ne_eq, Nat.reduceEqDiff, not_false_eq_true, not_true_eq_false, if_true, if_false]; exact m8) hK.2.1.2.2 (by simp only [su_at, su_ne, sr_eq, sr_ne, ne_eq, Nat.reduceEqDiff, not_false_eq_true, not_true_eq_false, if_true, if_false]; exact m0)).mono ?_
      rintro ro σ' ⟨rfl, hq⟩
      simp only [eX10_drift_54, eX10_drift_57, fx0, fx1, fx2, fx3, fx4, nl_int, nl_ref, nl_none, nl_ti, rz_nil, rz_int, rz_ref, rz_long, cf1, cf2, Option.toList_some, Option.toList_none, List.cons_append, List.nil_append, nI_1]
      have hKM2 : KM μ (su (su σk 109 11 (drM (itD w s μ k (r, v)).2)) 109 11 (drM (drM (itD w s μ k (r, v)).2))) := hKM.congr (fun k9 hk9 => by simp only [su_at, su_ne, sr_eq, sr_ne, ne_eq, Nat.reduceEqDiff, not_false_eq_true, not_true_eq_false, if_true, if_false, show k9 ≠ 11 by omega]; exact hg k9 (by omega)) (fun c h1 h2 => by rw [su_ne (by omega), su_ne (by omega), hf c (by omega) (by omega)])
      have row2 := hourM hKM2 hw6 hq
      refine ih (k + 1) σ' (some (dset w (itD w s μ k (r, v)).2)) (by omega) (fun j hj => ?_) ?_ (fun c h1 h2 => by rw [hq.1 c h1, su_ne h2, su_ne h2, hf c h1 h2]) (fun k9 hk9 => by rw [hq.1 109 (by decide)]; simp only [su_at, su_ne, sr_eq, sr_ne, ne_eq, Nat.reduceEqDiff, not_false_eq_true, not_true_eq_false, if_true, if_false, hk9]; exact hg k9 hk9)
      · rw [row2 j hj]
        show rowH w s μ _ rg (su (su σk 109 11 _) 109 11 _ 114) j = rowH w s μ (dset w (itD w s μ k (r, v)).2) (drung (itD w s μ k (r, v)).2) (itD w s μ k (r, v)).1 j
        rw [su_ne (by decide), su_ne (by decide), hrg]
        exact rowH_congr hw6 hs j hj
      · rw [hq.1 109 (by decide), su_eq]
        rfl
    by_cases hz : remI (drM (drM (itD w s μ k (r, v)).2) / 65536) 3 = 0
    · have hz9 : drM (drM (itD w s μ k (r, v)).2) / 65536 - drM (drM (itD w s μ k (r, v)).2) / 65536 / 3 * 3 = 0 := hz
      simp only [eX10_drift_43, eX10_drift_46, eX10_drift_47, fx0, fx1, fx2, fx3, fx4, nl_int, nl_ref, nl_none, nl_ti, rz_nil, rz_int, rz_ref, rz_long, cf1, cf2, Option.toList_some, Option.toList_none, List.cons_append, List.nil_append, hz9, if_true, hset]
      exact key 1 (by unfold drung; rw [if_pos hz])
    · have hz9 : ¬ drM (drM (itD w s μ k (r, v)).2) / 65536 - drM (drM (itD w s μ k (r, v)).2) / 65536 / 3 * 3 = 0 := hz
      simp only [eX10_drift_43, eX10_drift_46, eX10_drift_47, eX10_drift_50, fx0, fx1, fx2, fx3, fx4, nl_int, nl_ref, nl_none, nl_ti, rz_nil, rz_int, rz_ref, rz_long, cf1, cf2, Option.toList_some, Option.toList_none, List.cons_append, List.nil_append, hz9, if_false, hset]
      exact key 0 (by unfold drung; rw [if_neg hz])
theorem op_drift (hI : Inv σ) (x : Int32) : Pair l (d + 30) 70 124 [.int x] σ := by
  have hI0 := hI
  obtain ⟨h, w, s, hK, ⟨hS, hR⟩, hH, hIm, hD, hE, hB, hT⟩ := hI
  have hw6 : w ≤ 6 := hK.1.2.2
  have k5 : σ 9 0 = nI h := hK.2.2.1.2.1
  have k6 : σ 109 0 = nI h := hK.2.2.1.2.2.1
  have hh6 : h ≤ 6 := hK.2.2.1.1
  have s0 : σ 15 0 = σ 114 12 := hS.2.2 0 (by decide)
  obtain ⟨n, hn, hH1, hH2⟩ := hH
  refine aC_of rfl (Nat.le_of_ble_eq_true rfl) ?_
  show aE l (d + 29) none 9 cX9_drift (some .int) _ 0 [some (.ref 0), some (.int x), none, none, none, none] [] σ
  simp only [eX9_drift_0, eX9_drift_1, eX9_drift_2, fx0, fx1, fx2, fx3, fx4, nl_int, nl_ref, nl_none, nl_ti, rz_nil, rz_int, rz_ref, rz_long, cf1, cf2, Option.toList_some, Option.toList_none, List.cons_append, List.nil_append]
  refine aC.of c_refusal ?_
  rw [k5, s0]
  have hm : ∀ (τ : aW) (P : Option Value → aW → Prop) (v u : Int32), inB x.toInt64 1 60 = v → (if v = 0 then (-1000000002 : Int32) else if τ 109 0 = 0 then -1000000003 else if τ 114 12 ≤ 90000 then 0 else -1000000004) = u → aE l (d + 29) none 10 cX10_drift (some .int) P 5 [some (.ref 109), some (.int x), none, none, none] [.int u] τ → aC l (d + 30) 124 [.ref 109, .int x] τ P := by
    intro τ P v u hv hu hP
    refine aC_of rfl (Nat.le_of_ble_eq_true rfl) ?_
    show aE l (d + 29) none 10 cX10_drift (some .int) _ 0 [some (.ref 109), some (.int x), none, none, none] [] τ
    simp only [eX10_drift_0, eX10_drift_1, eX10_drift_2, fx0, fx1, fx2, fx3, fx4, nl_int, nl_ref, nl_none, nl_ti, rz_nil, rz_int, rz_ref, rz_long, cf1, cf2, Option.toList_some, Option.toList_none, List.cons_append, List.nil_append]
    refine aC.of m_hoursRefused ?_
    rw [hv, hu]
    exact hP
  rcases rg60 x with ⟨N, hN1, hN, rfl⟩ | ⟨z1, z2⟩
  · obtain ⟨o1, o2, o3⟩ := rg601 N hN hN1
    rw [if_neg o1, if_pos o2]
    by_cases h0 : h = 0
    · subst h0
      simp only [eX9_drift_5, eX9_drift_6, eX9_drift_7, eX9_drift_8, eX9_drift_11, eX9_drift_12, fx0, fx1, fx2, fx3, fx4, nl_int, nl_ref, nl_none, nl_ti, rz_nil, rz_int, rz_ref, rz_long, cf1, cf2, Option.toList_some, Option.toList_none, List.cons_append, List.nil_append, show nI 0 ≤ 0 by decide, if_true, show ¬ (-1000000003 : Int32) = -1 by decide, if_false]
      refine hm _ _ 1 (-1000000003) o3 (by rw [if_neg (by decide), k6]; rfl) ?_
      simp only [eX10_drift_5, eX10_drift_6, eX10_drift_7, eX10_drift_10, eX10_drift_11, fx0, fx1, fx2, fx3, fx4, nl_int, nl_ref, nl_none, nl_ti, rz_nil, rz_int, rz_ref, rz_long, cf1, cf2, Option.toList_some, Option.toList_none, List.cons_append, List.nil_append, show ¬ (-1000000003 : Int32) = 0 by decide, if_false]
      exact ⟨⟨_, rfl, rfl⟩, hI0⟩
    · have hnle : ¬ nI h ≤ 0 := nI_nle (by omega) (by omega)
      have hne0 : ¬ nI h = 0 := nI_ne0 (by omega) (by omega)
      rw [if_neg hnle]
      by_cases hf : σ 114 12 ≤ 90000
      · rw [if_pos hf]
        obtain ⟨R1, ⟨hh, R2, R3, R4⟩, R5⟩ := hR
        have hh9 : hh ≤ 90000 := by
          rw [R3, show (90000 : Int32) = nI 90000 from rfl, nile (by omega) (by omega)] at hf
          exact hf
        have hok := itD_ok (b := 90000) (v := σ 90 0) hK ⟨R1, ⟨hh, hh9, R3, R4⟩, R5⟩ hD.2
        simp only [eX9_drift_5, eX9_drift_6, eX9_drift_7, eX9_drift_8, eX9_drift_11, eX9_drift_12, eX9_drift_13, eX9_drift_14, eX9_drift_17, eX9_drift_18, eX9_drift_21, fx0, fx1, fx2, fx3, fx4, nl_int, nl_ref, nl_none, nl_ti, rz_nil, rz_int, rz_ref, rz_long, cf1, cf2, Option.toList_some, Option.toList_none, List.cons_append, List.nil_append, if_true]
        refine (c_remC hH1 hS hw6).mono ?_
        rintro ro τ ⟨rfl, hist, fr⟩
        simp only [eX9_drift_24, eX9_drift_25, fx0, fx1, fx2, fx3, fx4, nl_int, nl_ref, nl_none, nl_ti, rz_nil, rz_int, rz_ref, rz_long, cf1, cf2, Option.toList_some, Option.toList_none, List.cons_append, List.nil_append]
        have hKτ : KC h w s σ τ := KC.congr hK (fun c h1 h2 => fr c (by omega))
        have hSτ : StR w τ 15 (σ 114) := hS.same (fr 15 (by decide)) (fr 16 (by decide)) (fr 17 (by decide))
        refine drift_c (d := d + 24) (h := h) (w := w) (s := s) (N := N) (μ := σ) (τ := τ) (r := σ 114) (v := σ 90 0) hN (by omega) hKτ (fun k hk => (hok k (by omega)).2) ?_ N 0 τ none none (by omega) hSτ (by rw [fr 90 (by decide)]; rfl) (fun _ _ _ _ _ => rfl)
        intro σ1 t4 t5 st1 sd1 frl
        simp only [eX9_drift_94, eX9_drift_95, eX9_drift_98, eX9_drift_101, fx0, fx1, fx2, fx3, fx4, nl_int, nl_ref, nl_none, nl_ti, rz_nil, rz_int, rz_ref, rz_long, cf1, cf2, Option.toList_some, Option.toList_none, List.cons_append, List.nil_append]
        have fr1 : ∀ c, (c < 15 ∨ 80 ≤ c) → c ≠ 90 → σ1 c = σ c := fun c h1 h2 => by rw [frl c (by omega) (by omega) (by omega) h2, fr c (by omega)]
        have e109 := fr1 109 (by decide) (by decide)
        have e114 := fr1 114 (by decide) (by decide)
        refine hm _ _ 1 0 o3 (by rw [if_neg (by decide), e109, k6, if_neg hne0, e114, if_pos hf]) ?_
        simp only [eX10_drift_5, eX10_drift_6, eX10_drift_7, eX10_drift_10, eX10_drift_11, eX10_drift_12, eX10_drift_13, fx0, fx1, fx2, fx3, fx4, nl_int, nl_ref, nl_none, nl_ti, rz_nil, rz_int, rz_ref, rz_long, cf1, cf2, Option.toList_some, Option.toList_none, List.cons_append, List.nil_append, if_true]
        refine (m_remember (n := n) (by rw [e109]; exact hn) hH1.1).mono ?_
        rintro ro τ2 ⟨rfl, hr⟩
        simp only [eX10_drift_16, eX10_drift_17, fx0, fx1, fx2, fx3, fx4, nl_int, nl_ref, nl_none, nl_ti, rz_nil, rz_int, rz_ref, rz_long, cf1, cf2, Option.toList_some, Option.toList_none, List.cons_append, List.nil_append]
        have t114 : τ2 114 = σ 114 := by rw [hr.1 114 (by decide) (by decide), e114]
        have hKM : KM σ τ2 := ⟨fun k hk => by rw [hr.2.1 k (by omega), e109], fun c h1 h2 => by rw [hr.1 c (by omega) (by omega), fr1 c (by omega) (by omega)]⟩
        refine drift_m (σ := σ) (d := d + 24) (h := h) (w := w) (s := s) (N := N) (μ := σ) (τ := τ2) (r := σ 114) (v := σ 90 0) hN (by omega) hKM hK ?_ N 0 τ2 none (by omega) (fun j _ => by rw [t114]; rfl) (by rw [hr.2.1 11 (by decide), e109]; exact hD.1.symm) (fun _ _ _ => rfl) (fun _ _ => rfl)
        intro σ2 t4 row2 sd2 fr2 fr3
        simp only [eX10_drift_60, eX10_drift_61, eX10_drift_64, eX10_drift_66, eX10_drift_67, fx0, fx1, fx2, fx3, fx4, nl_int, nl_ref, nl_none, nl_ti, rz_nil, rz_int, rz_ref, rz_long, cf1, cf2, Option.toList_some, Option.toList_none, List.cons_append, List.nil_append, vi19, true_and]
        refine ⟨⟨_, rfl, by rw [row2 12 (by decide), ← st1.2.2 0 (by decide)]⟩, ?_⟩
        have okR2 : RokB 90060 w (itD w s σ N (σ 114, σ 90 0)).1 := by
          obtain ⟨a1, ⟨h9, a2, a3, a4⟩, a5⟩ := (hok N (by omega)).1
          exact ⟨a1, ⟨h9, by omega, a3, a4⟩, a5⟩
        refine fin_do hK ⟨R1, ⟨hh, R2, R3, R4⟩, R5⟩ hn hH2 hIm hE hB hT (hist.congr (fun c h1 h2 => frl c (by omega) (by omega) (by omega) (by omega)) hw6 (fun _ _ _ _ => rfl)) st1 fr1 hr row2 fr2 fr3 okR2 ⟨?_, ?_⟩
        · rw [fr2 90 (by decide) (by decide), hr.1 90 (by decide) (by decide), sd1, sd2]
        · rw [fr2 90 (by decide) (by decide), hr.1 90 (by decide) (by decide), sd1]
          exact (hok N (by omega)).2
      · rw [if_neg hf]
        simp only [eX9_drift_5, eX9_drift_6, eX9_drift_7, eX9_drift_8, eX9_drift_11, eX9_drift_12, fx0, fx1, fx2, fx3, fx4, nl_int, nl_ref, nl_none, nl_ti, rz_nil, rz_int, rz_ref, rz_long, cf1, cf2, Option.toList_some, Option.toList_none, List.cons_append, List.nil_append, show ¬ (-1000000004 : Int32) = -1 by decide, if_false]
        refine hm _ _ 1 (-1000000004) o3 (by rw [if_neg (by decide), k6, if_neg hne0, if_neg hf]) ?_
        simp only [eX10_drift_5, eX10_drift_6, eX10_drift_7, eX10_drift_10, eX10_drift_11, fx0, fx1, fx2, fx3, fx4, nl_int, nl_ref, nl_none, nl_ti, rz_nil, rz_int, rz_ref, rz_long, cf1, cf2, Option.toList_some, Option.toList_none, List.cons_append, List.nil_append, show ¬ (-1000000004 : Int32) = 0 by decide, if_false]
        exact ⟨⟨_, rfl, rfl⟩, hI0⟩
  · rw [z1]
    simp only [eX9_drift_5, eX9_drift_6, eX9_drift_7, eX9_drift_8, eX9_drift_11, eX9_drift_12, fx0, fx1, fx2, fx3, fx4, nl_int, nl_ref, nl_none, nl_ti, rz_nil, rz_int, rz_ref, rz_long, cf1, cf2, Option.toList_some, Option.toList_none, List.cons_append, List.nil_append, show ¬ (-1000000002 : Int32) = -1 by decide, if_false]
    refine hm _ _ 0 (-1000000002) z2 rfl ?_
    simp only [eX10_drift_5, eX10_drift_6, eX10_drift_7, eX10_drift_10, eX10_drift_11, fx0, fx1, fx2, fx3, fx4, nl_int, nl_ref, nl_none, nl_ti, rz_nil, rz_int, rz_ref, rz_long, cf1, cf2, Option.toList_some, Option.toList_none, List.cons_append, List.nil_append, show ¬ (-1000000002 : Int32) = 0 by decide, if_false]
    exact ⟨⟨_, rfl, rfl⟩, hI0⟩
end O8
