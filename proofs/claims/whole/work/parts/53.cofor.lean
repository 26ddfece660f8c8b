/-! coffeeFor -/
theorem bh_ne (T : Nat → Int32) : ∀ j, j ≤ 6 → ¬ (bh T j).1 = -1 := by
  intro j
  induction j with
  | zero => exact fun _ => by show ¬ (0 : Int32) = -1; decide
  | succ j ih =>
    intro hj
    rw [bh_s]
    by_cases e : (bh T j).2 ≤ T (j + 1)
    · rw [if_pos e]
      exact ih (by omega)
    · rw [if_neg e]
      show ¬ nI (j + 1) = -1
      intro e2
      have h0 : ¬ nI (j + 1) < 0 := nI_pos (by omega)
      rw [e2] at h0
      exact h0 (by decide)
theorem bh_congr {T T' : Nat → Int32} : ∀ n, (∀ k, k ≤ n → T k = T' k) → bh T n = bh T' n := by
  intro n
  induction n with
  | zero => intro hk; show ((0 : Int32), T 0) = (0, T' 0); rw [hk 0 (Nat.le_refl 0)]
  | succ n ih =>
    intro hk
    rw [bh_s, bh_s, ih (fun k h => hk k (by omega)), hk (n + 1) (Nat.le_refl _)]
section CF
variable {l : Launch} {d : Nat} {σ : aW}
theorem cofor_c {Q : Option Value → aW → Prop} {w h : Nat} (hw : σ 9 4 = nI (w + 1)) (hw6 : w + 1 ≤ 6) (hh : σ 9 0 = nI h) (hh6 : h ≤ 6) {T : Nat → Int32} (hT : T = fun p => trN (w + 1) (nI (2 ^ (w + 1) - 1)) (σ 9 3) (σ 11) (σ 12) (σ 13) (-1) (upd (σ 16) p (mx0 (σ 16 p - 30))) h)
    (hk : ∀ g t, aE l (d + 4) none 9 cX9_coffeeFor (some .int) Q 76 [some (.ref 0), some (.int (bh T w).1), some (.int (bh T w).2), some (.int (nI (w + 1))), ti t] [] (sr σ 94 g)) : ∀ n j g t, j + n = w →
    aE l (d + 4) none 9 cX9_coffeeFor (some .int) Q 19 [some (.ref 0), some (.int (bh T j).1), some (.int (bh T j).2), some (.int (nI (j + 1))), ti t] [] (sr σ 94 g) := by
  intro n
  induction n with
  | zero =>
    intro j g t hkn
    have hkn : j = w := by omega
    subst hkn
    have h1 : nI (j + 1) ≤ nI (j + 1) := (nile (by omega) (by omega)).mpr (Nat.le_refl _)
    rw [eX9_coffeeFor_19]
    simp only [eX9_coffeeFor_20, eX9_coffeeFor_21, eX9_coffeeFor_24, eX9_coffeeFor_27, fx0, fx1, fx2, fx3, fx4, nl_int, nl_ref, nl_none, nl_ti, rz_nil, rz_int, rz_ref, rz_long, cf1, cf2, Option.toList_some, Option.toList_none, List.cons_append, List.nil_append, su_at, su_ne, sr_eq, sr_ne, ne_eq, Nat.reduceEqDiff, not_false_eq_true, not_true_eq_false, if_true, if_false, hw, h1, if_true]
    exact hk g t
  | succ n ih =>
    intro j g t hkn
    have h1 : ¬ nI (w + 1) ≤ nI (j + 1) := by rw [nile (by omega) (by omega)]; omega
    have h2 : ¬ (6 : Int32) ≤ nI (j + 1) := by rw [show (6 : Int32) = nI 6 from rfl, nile (by omega) (by omega)]; omega
    rw [eX9_coffeeFor_19]
    simp only [eX9_coffeeFor_20, eX9_coffeeFor_21, eX9_coffeeFor_24, eX9_coffeeFor_27, eX9_coffeeFor_30, eX9_coffeeFor_31, eX9_coffeeFor_33, eX9_coffeeFor_36, eX9_coffeeFor_37, eX9_coffeeFor_40, eX9_coffeeFor_41, eX9_coffeeFor_44, eX9_coffeeFor_45, eX9_coffeeFor_48, eX9_coffeeFor_49, fx0, fx1, fx2, fx3, fx4, nl_int, nl_ref, nl_none, nl_ti, rz_nil, rz_int, rz_ref, rz_long, cf1, cf2, Option.toList_some, Option.toList_none, List.cons_append, List.nil_append, su_at, su_ne, sr_eq, sr_ne, ne_eq, Nat.reduceEqDiff, not_false_eq_true, not_true_eq_false, if_true, if_false, hw, h1, h2, if_false]
    refine c_nodsWithCoffee hw hw6 (by omega) hh hh6 ?_
    intro g'
    rw [show trN (w + 1) (nI (2 ^ (w + 1) - 1)) (σ 9 3) (σ 11) (σ 12) (σ 13) (-1) (upd (σ 16) (j + 1) (mx0 (σ 16 (j + 1) - 30))) h = T (j + 1) from by rw [hT]]
    have hne := bh_ne T j (by omega)
    simp only [eX9_coffeeFor_52, eX9_coffeeFor_54, eX9_coffeeFor_55, eX9_coffeeFor_56, eX9_coffeeFor_59, eX9_coffeeFor_61, fx0, fx1, fx2, fx3, fx4, nl_int, nl_ref, nl_none, nl_ti, rz_nil, rz_int, rz_ref, rz_long, cf1, cf2, Option.toList_some, Option.toList_none, List.cons_append, List.nil_append, hne, if_false]
    have key := ih (j + 1) g' (some (T (j + 1))) (by omega)
    rw [bh_s] at key
    by_cases e : (bh T j).2 ≤ T (j + 1)
    · rw [if_pos e] at key
      simp only [eX9_coffeeFor_62, eX9_coffeeFor_65, eX9_coffeeFor_67, eX9_coffeeFor_68, eX9_coffeeFor_69, eX9_coffeeFor_70, eX9_coffeeFor_73, fx0, fx1, fx2, fx3, fx4, nl_int, nl_ref, nl_none, nl_ti, rz_nil, rz_int, rz_ref, rz_long, cf1, cf2, Option.toList_some, Option.toList_none, List.cons_append, List.nil_append, e, if_true, nI_1]
      exact key
    · rw [if_neg e] at key
      simp only [eX9_coffeeFor_62, eX9_coffeeFor_65, eX9_coffeeFor_67, eX9_coffeeFor_68, eX9_coffeeFor_69, eX9_coffeeFor_70, eX9_coffeeFor_73, fx0, fx1, fx2, fx3, fx4, nl_int, nl_ref, nl_none, nl_ti, rz_nil, rz_int, rz_ref, rz_long, cf1, cf2, Option.toList_some, Option.toList_none, List.cons_append, List.nil_append, e, if_false, nI_1]
      exact key
theorem m_nodsK {w h p : Nat} (hw : σ 109 4 = nI w) (hw6 : w ≤ 6) (hp : p < w) (hh : σ 109 0 = nI h) (hh6 : h ≤ 6) (hs : ∀ q, q < 6 → σ 123 q = σ 114 q) {v : Int32} : Sem l (d + 3) 132 [.ref 109, .int (-1)] (su σ 114 p v) (some (.int (trN w (nI (2 ^ w - 1)) (σ 109 3) (σ 110) (σ 111) (σ 112) (-1) (upd (σ 114) p v) h))) σ := by
  have := m_nodsOfAll (l := l) (d := d) (b := -1) (σ := su σ 114 p v) (w := w) (h := h) (by simp only [su_at, su_ne, sr_eq, sr_ne, ne_eq, Nat.reduceEqDiff, not_false_eq_true, not_true_eq_false, if_true, if_false]; exact hw) hw6 (by simp only [su_at, su_ne, sr_eq, sr_ne, ne_eq, Nat.reduceEqDiff, not_false_eq_true, not_true_eq_false, if_true, if_false]; exact hh) hh6
  rw [su_row, sr_sr] at this
  simp only [su_at, su_ne, sr_eq, sr_ne, ne_eq, Nat.reduceEqDiff, not_false_eq_true, not_true_eq_false, if_true, if_false] at this
  rw [show pre 6 (σ 123) (upd (σ 114) p v) = σ 114 from by
    funext q
    unfold pre upd
    by_cases e : q < 6
    · rw [if_pos e, hs q e]
    · rw [if_neg e, if_neg (by omega)], sr_self] at this
  exact this
theorem cofor_m1 {Q : Option Value → aW → Prop} {w h j : Nat} {b lst : Int32} {t : Option Int32} (hw : σ 109 4 = nI w) (hw6 : w ≤ 6) (hj : j < w) (hh : σ 109 0 = nI h) (hh6 : h ≤ 6) (hs : ∀ q, q < 6 → σ 123 q = σ 114 q) {T : Nat → Int32} (hT : T = fun p => trN w (nI (2 ^ w - 1)) (σ 109 3) (σ 110) (σ 111) (σ 112) (-1) (upd (σ 114) p (mx0 (σ 114 p - 30))) h)
    (hk : aE l (d + 4) none 10 cX10_coffeeFor (some .int) Q 21 [some (.ref 109), some (.int (if lst ≤ T j then b else nI j)), some (.int (if lst ≤ T j then lst else T j)), some (.int (nI (j + 1))), ti (some (T j))] [] σ) :
    aE l (d + 4) none 10 cX10_coffeeFor (some .int) Q 21 [some (.ref 109), some (.int b), some (.int lst), some (.int (nI j)), ti t] [] σ := by
  have h1 : ¬ nI w ≤ nI j := by rw [nile (by omega) (by omega)]; omega
  have hin : vp_in (nI j) 19 := vin (by omega) (by omega)
  have hcl : (nI j).toNatClampNeg = j := nic (by omega)
  rw [eX10_coffeeFor_21]
  simp only [eX10_coffeeFor_22, eX10_coffeeFor_23, eX10_coffeeFor_26, eX10_coffeeFor_29, eX10_coffeeFor_30, eX10_coffeeFor_33, eX10_coffeeFor_34, eX10_coffeeFor_35, eX10_coffeeFor_38, eX10_coffeeFor_39, eX10_coffeeFor_40, eX10_coffeeFor_42, eX10_coffeeFor_43, eX10_coffeeFor_44, fx0, fx1, fx2, fx3, fx4, nl_int, nl_ref, nl_none, nl_ti, rz_nil, rz_int, rz_ref, rz_long, cf1, cf2, Option.toList_some, Option.toList_none, List.cons_append, List.nil_append, hw, h1, if_false, hin, hcl, true_and]
  refine aC.of m_atLeast ?_
  simp only [eX10_coffeeFor_47, eX10_coffeeFor_48, eX10_coffeeFor_49, eX10_coffeeFor_50, fx0, fx1, fx2, fx3, fx4, nl_int, nl_ref, nl_none, nl_ti, rz_nil, rz_int, rz_ref, rz_long, cf1, cf2, Option.toList_some, Option.toList_none, List.cons_append, List.nil_append, hin, hcl, true_and]
  refine aC.of (m_nodsK hw hw6 hj hh hh6 hs) ?_
  rw [show trN w (nI (2 ^ w - 1)) (σ 109 3) (σ 110) (σ 111) (σ 112) (-1) (upd (σ 114) j (mx 0 (σ 114 j - 30))) h = T j from by rw [hT]; rfl]
  by_cases e : lst ≤ T j
  · rw [if_pos e, if_pos e] at hk
    simp only [eX10_coffeeFor_53, eX10_coffeeFor_55, eX10_coffeeFor_57, eX10_coffeeFor_58, eX10_coffeeFor_61, eX10_coffeeFor_62, eX10_coffeeFor_65, eX10_coffeeFor_66, eX10_coffeeFor_67, eX10_coffeeFor_69, eX10_coffeeFor_70, eX10_coffeeFor_73, eX10_coffeeFor_75, eX10_coffeeFor_78, eX10_coffeeFor_79, eX10_coffeeFor_80, eX10_coffeeFor_83, fx0, fx1, fx2, fx3, fx4, nl_int, nl_ref, nl_none, nl_ti, rz_nil, rz_int, rz_ref, rz_long, cf1, cf2, Option.toList_some, Option.toList_none, List.cons_append, List.nil_append, e, if_true, nI_1]
    exact hk
  · rw [if_neg e, if_neg e] at hk
    simp only [eX10_coffeeFor_53, eX10_coffeeFor_55, eX10_coffeeFor_57, eX10_coffeeFor_58, eX10_coffeeFor_61, eX10_coffeeFor_62, eX10_coffeeFor_65, eX10_coffeeFor_66, eX10_coffeeFor_67, eX10_coffeeFor_69, eX10_coffeeFor_70, eX10_coffeeFor_73, eX10_coffeeFor_75, eX10_coffeeFor_78, eX10_coffeeFor_79, eX10_coffeeFor_80, eX10_coffeeFor_83, fx0, fx1, fx2, fx3, fx4, nl_int, nl_ref, nl_none, nl_ti, rz_nil, rz_int, rz_ref, rz_long, cf1, cf2, Option.toList_some, Option.toList_none, List.cons_append, List.nil_append, e, if_false, nI_1]
    exact hk
theorem cofor_m {Q : Option Value → aW → Prop} {w h : Nat} (hw : σ 109 4 = nI (w + 1)) (hw6 : w + 1 ≤ 6) (hh : σ 109 0 = nI h) (hh6 : h ≤ 6) (hs : ∀ q, q < 6 → σ 123 q = σ 114 q) {T : Nat → Int32} (hT : T = fun p => trN (w + 1) (nI (2 ^ (w + 1) - 1)) (σ 109 3) (σ 110) (σ 111) (σ 112) (-1) (upd (σ 114) p (mx0 (σ 114 p - 30))) h)
    (hk : Q (some (.int (bh T w).1)) σ) : ∀ n j t, j + n = w →
    aE l (d + 4) none 10 cX10_coffeeFor (some .int) Q 21 [some (.ref 109), some (.int (bh T j).1), some (.int (bh T j).2), some (.int (nI (j + 1))), ti t] [] σ := by
  intro n
  induction n with
  | zero =>
    intro j t hkn
    have hkn : j = w := by omega
    subst hkn
    have h1 : nI (j + 1) ≤ nI (j + 1) := (nile (by omega) (by omega)).mpr (Nat.le_refl _)
    simp only [eX10_coffeeFor_21, eX10_coffeeFor_22, eX10_coffeeFor_23, eX10_coffeeFor_26, eX10_coffeeFor_86, eX10_coffeeFor_87, fx0, fx1, fx2, fx3, fx4, nl_int, nl_ref, nl_none, nl_ti, rz_nil, rz_int, rz_ref, rz_long, cf1, cf2, Option.toList_some, Option.toList_none, List.cons_append, List.nil_append, hw, h1, if_true]
    exact hk
  | succ n ih =>
    intro j t hkn
    refine cofor_m1 hw hw6 (by omega) hh hh6 hs hT ?_
    have key := ih (j + 1) (some (T (j + 1))) (by omega)
    rw [bh_s] at key
    by_cases e : (bh T j).2 ≤ T (j + 1)
    · rw [if_pos e] at key
      rw [if_pos e, if_pos e]
      exact key
    · rw [if_neg e] at key
      rw [if_neg e, if_neg e]
      exact key
theorem op_coffeeFor (hI : Inv σ) : Pair l (d + 30) 74 134 [] σ := by
  have hI0 := hI
  obtain ⟨h, w, s, hK, ⟨hS, hR⟩, hH, hIm, hD, hE, hB, hT⟩ := hI
  have hw6 : w ≤ 6 := hK.1.2.2
  have k1 : σ 9 4 = nI w := hK.1.1
  have k2 : σ 109 4 = nI w := hK.1.2.1
  obtain ⟨hh6, k5, k6, -⟩ := hK.2.2.1
  refine aC_of rfl (Nat.le_of_ble_eq_true rfl) ?_
  show aE l (d + 29) none 9 cX9_coffeeFor (some .int) _ 0 [some (.ref 0), none, none, none, none] [] σ
  simp only [eX9_coffeeFor_0, eX9_coffeeFor_1, eX9_coffeeFor_4, fx0, fx1, fx2, fx3, fx4, nl_int, nl_ref, nl_none, nl_ti, rz_nil, rz_int, rz_ref, rz_long, cf1, cf2, Option.toList_some, Option.toList_none, List.cons_append, List.nil_append]
  refine aC.of (c_stands (Or.inr rfl)) ?_
  rw [k5]
  by_cases h0 : h = 0
  · subst h0
    simp only [eX9_coffeeFor_7, eX9_coffeeFor_10, eX9_coffeeFor_12, fx0, fx1, fx2, fx3, fx4, nl_int, nl_ref, nl_none, nl_ti, rz_nil, rz_int, rz_ref, rz_long, cf1, cf2, Option.toList_some, Option.toList_none, List.cons_append, List.nil_append, show nI 0 ≤ 0 by decide, if_true]
    refine aC_of rfl (Nat.le_of_ble_eq_true rfl) ?_
    show aE l (d + 29) none 10 cX10_coffeeFor (some .int) _ 0 [some (.ref 109), none, none, none, none] [] σ
    simp only [eX10_coffeeFor_0, eX10_coffeeFor_1, eX10_coffeeFor_4, eX10_coffeeFor_7, eX10_coffeeFor_9, fx0, fx1, fx2, fx3, fx4, nl_int, nl_ref, nl_none, nl_ti, rz_nil, rz_int, rz_ref, rz_long, cf1, cf2, Option.toList_some, Option.toList_none, List.cons_append, List.nil_append, k6, show nI 0 = 0 from rfl, if_true]
    exact ⟨⟨_, rfl, rfl⟩, hI0⟩
  have hnle : ¬ nI h ≤ 0 := nI_nle (by omega) (by omega)
  have hne0 : ¬ nI h = 0 := nI_ne0 (by omega) (by omega)
  simp only [eX9_coffeeFor_7, eX9_coffeeFor_10, eX9_coffeeFor_12, eX9_coffeeFor_13, eX9_coffeeFor_14, eX9_coffeeFor_15, eX9_coffeeFor_16, eX9_coffeeFor_17, eX9_coffeeFor_18, fx0, fx1, fx2, fx3, fx4, nl_int, nl_ref, nl_none, nl_ti, rz_nil, rz_int, rz_ref, rz_long, cf1, cf2, Option.toList_some, Option.toList_none, List.cons_append, List.nil_append, hnle, if_false, show ¬ (1 : Int32) = 0 by decide]
  have hmm : ∀ (P : Option Value → aW → Prop) (τ : aW), τ 109 = σ 109 → aE l (d + 29) none 10 cX10_coffeeFor (some .int) P 21 [some (.ref 109), some (.int (-1)), some (.int 1000000), some (.int (nI 0)), ti none] [] (sr τ 123 (pre 6 (τ 114) (τ 123))) → aC l (d + 30) 134 [.ref 109] τ P := by
    intro P τ t109 hP
    refine aC_of rfl (Nat.le_of_ble_eq_true rfl) ?_
    show aE l (d + 29) none 10 cX10_coffeeFor (some .int) _ 0 [some (.ref 109), none, none, none, none] [] τ
    simp only [eX10_coffeeFor_0, eX10_coffeeFor_1, eX10_coffeeFor_4, eX10_coffeeFor_7, eX10_coffeeFor_9, eX10_coffeeFor_10, eX10_coffeeFor_11, fx0, fx1, fx2, fx3, fx4, nl_int, nl_ref, nl_none, nl_ti, rz_nil, rz_int, rz_ref, rz_long, cf1, cf2, Option.toList_some, Option.toList_none, List.cons_append, List.nil_append, t109, k6, hne0, if_false]
    refine aC.of m_save ?_
    simp only [eX10_coffeeFor_14, eX10_coffeeFor_15, eX10_coffeeFor_16, eX10_coffeeFor_18, eX10_coffeeFor_19, eX10_coffeeFor_20, fx0, fx1, fx2, fx3, fx4, nl_int, nl_ref, nl_none, nl_ti, rz_nil, rz_int, rz_ref, rz_long, cf1, cf2, Option.toList_some, Option.toList_none, List.cons_append, List.nil_append]
    exact hP
  have hend : ∀ g, Inv (sr (sr σ 94 g) 123 (pre 6 (sr σ 94 g 114) (sr σ 94 g 123))) := fun g => by
    refine hI0.free (fun c c1 c2 => ?_) (fun k hk => ?_)
    · rw [sr_ne (by omega), sr_ne (by omega)]
    · rw [sr_ne (by omega), sr_ne (by omega)]
  by_cases hw0 : w = 0
  · subst hw0
    have h1 : nI 0 ≤ 0 := by decide
    rw [eX9_coffeeFor_19]
    simp only [eX9_coffeeFor_20, eX9_coffeeFor_21, eX9_coffeeFor_24, eX9_coffeeFor_27, eX9_coffeeFor_76, eX9_coffeeFor_77, fx0, fx1, fx2, fx3, fx4, nl_int, nl_ref, nl_none, nl_ti, rz_nil, rz_int, rz_ref, rz_long, cf1, cf2, Option.toList_some, Option.toList_none, List.cons_append, List.nil_append, k1, h1, if_true]
    refine hmm _ _ rfl ?_
    simp only [eX10_coffeeFor_21, eX10_coffeeFor_22, eX10_coffeeFor_23, eX10_coffeeFor_26, eX10_coffeeFor_86, eX10_coffeeFor_87, fx0, fx1, fx2, fx3, fx4, nl_int, nl_ref, nl_none, nl_ti, rz_nil, rz_int, rz_ref, rz_long, cf1, cf2, Option.toList_some, Option.toList_none, List.cons_append, List.nil_append, su_at, su_ne, sr_eq, sr_ne, ne_eq, Nat.reduceEqDiff, not_false_eq_true, not_true_eq_false, if_true, if_false, k2, show nI 0 ≤ nI 0 by decide, if_true]
    have := hend (σ 94)
    rw [sr_self] at this
    exact ⟨⟨_, rfl, rfl⟩, this⟩
  · obtain ⟨w', rfl⟩ : ∃ w', w = w' + 1 := ⟨w - 1, by omega⟩
    have h1 : ¬ nI (w' + 1) ≤ 0 := nI_nle (by omega) (by omega)
    rw [eX9_coffeeFor_19]
    simp only [eX9_coffeeFor_20, eX9_coffeeFor_21, eX9_coffeeFor_24, eX9_coffeeFor_27, eX9_coffeeFor_30, eX9_coffeeFor_31, eX9_coffeeFor_33, eX9_coffeeFor_36, eX9_coffeeFor_37, eX9_coffeeFor_40, eX9_coffeeFor_41, eX9_coffeeFor_44, eX9_coffeeFor_45, eX9_coffeeFor_48, eX9_coffeeFor_49, fx0, fx1, fx2, fx3, fx4, nl_int, nl_ref, nl_none, nl_ti, rz_nil, rz_int, rz_ref, rz_long, cf1, cf2, Option.toList_some, Option.toList_none, List.cons_append, List.nil_append, k1, h1, if_false, show ¬ (6 : Int32) ≤ 0 by decide]
    have hs0 : sr σ 94 (σ 94) = σ := sr_self σ 94
    rw [← hs0]
    refine c_nodsWithCoffee (d := d + 25) (p := 0) k1 hw6 (by omega) k5 hh6 ?_
    intro g'
    simp only [eX9_coffeeFor_52, eX9_coffeeFor_54, eX9_coffeeFor_55, eX9_coffeeFor_56, eX9_coffeeFor_59, eX9_coffeeFor_61, eX9_coffeeFor_62, eX9_coffeeFor_65, eX9_coffeeFor_67, eX9_coffeeFor_68, eX9_coffeeFor_69, eX9_coffeeFor_70, eX9_coffeeFor_73, fx0, fx1, fx2, fx3, fx4, nl_int, nl_ref, nl_none, nl_ti, rz_nil, rz_int, rz_ref, rz_long, cf1, cf2, Option.toList_some, Option.toList_none, List.cons_append, List.nil_append, if_true]
    refine cofor_c (d := d + 25) k1 hw6 k5 hh6 (hT := rfl) ?_ w' 0 g' (some _) (by omega)
    intro g t
    have hTT : ∀ p, p ≤ w' → (fun p => trN (w' + 1) (nI (2 ^ (w' + 1) - 1)) (σ 9 3) (σ 11) (σ 12) (σ 13) (-1) (upd (σ 16) p (mx0 (σ 16 p - 30))) h) p = (fun p => trN (w' + 1) (nI (2 ^ (w' + 1) - 1)) (σ 109 3) (σ 110) (σ 111) (σ 112) (-1) (upd (σ 114) p (mx0 (σ 114 p - 30))) h) p := by
      intro p hp
      refine trN_congr hK.2.2.2.1.2.2.1 (fun q hq => ⟨(hK.2.2.2.2.1 q hq).1, (hK.2.2.2.2.1 q hq).2.1, (hK.2.2.2.2.1 q hq).2.2.1⟩) (fun q hq => ?_) _
      have s1 : σ 16 q = σ 114 q := hS.1 q hq
      have s2 : σ 16 p = σ 114 p := hS.1 p (by omega)
      unfold upd
      rw [s1, s2]
    rw [bh_congr w' hTT]
    generalize hT : (fun p => trN (w' + 1) (nI (2 ^ (w' + 1) - 1)) (σ 109 3) (σ 110) (σ 111) (σ 112) (-1) (upd (σ 114) p (mx0 (σ 114 p - 30))) h) = T
    have hT0 : T 0 < 1000000 := by
      obtain ⟨j, j1, j2⟩ := trN_lt (w := w' + 1) (set := nI (2 ^ (w' + 1) - 1)) (B := σ 109 3) (mo := σ 110) (le := σ 111) (lim := σ 112) (b := -1) (f := upd (σ 114) 0 (mx0 (σ 114 0 - 30))) hw6 h hh6
      rw [← hT]
      show trN _ _ _ _ _ _ _ _ _ < 1000000
      rw [j2, show (1000000 : Int32) = nI 1000000 from rfl, nilt (by omega) (by omega)]
      omega
    have hT0' : ¬ (1000000 : Int32) ≤ T 0 := Int32.not_le.mpr hT0
    simp only [eX9_coffeeFor_76, eX9_coffeeFor_77, fx0, fx1, fx2, fx3, fx4, nl_int, nl_ref, nl_none, nl_ti, rz_nil, rz_int, rz_ref, rz_long, cf1, cf2, Option.toList_some, Option.toList_none, List.cons_append, List.nil_append]
    refine hmm _ _ (sr_ne (by decide)) ?_
    have he := hend g
    generalize hυ : sr (sr σ 94 g) 123 (pre 6 (sr σ 94 g 114) (sr σ 94 g 123)) = υ at he ⊢
    have u : ∀ c, c ≠ 94 → c ≠ 123 → υ c = σ c := by
      intro c c1 c2
      rw [← hυ, sr_ne c2, sr_ne c1]
    have us : ∀ q, q < 6 → υ 123 q = υ 114 q := by
      intro q hq
      rw [u 114 (by decide) (by decide), ← hυ, sr_eq, sr_ne (show (114 : Nat) ≠ 94 by decide)]
      exact if_pos hq
    have u109 := u 109 (by decide) (by decide)
    have uT : (fun p => trN (w' + 1) (nI (2 ^ (w' + 1) - 1)) (υ 109 3) (υ 110) (υ 111) (υ 112) (-1) (upd (υ 114) p (mx0 (υ 114 p - 30))) h) = T := by
      rw [u109, u 110 (by decide) (by decide), u 111 (by decide) (by decide), u 112 (by decide) (by decide), u 114 (by decide) (by decide)]
      exact hT
    have e4 : υ 109 4 = nI (w' + 1) := by rw [u109]; exact k2
    have e0 : υ 109 0 = nI h := by rw [u109]; exact k6
    refine cofor_m1 (d := d + 25) (T := T) e4 hw6 (by omega) e0 hh6 us uT.symm ?_
    rw [if_neg hT0', if_neg hT0']
    refine cofor_m (d := d + 25) (T := T) e4 hw6 e0 hh6 us uT.symm ?_ w' 0 _ (by omega)
    exact ⟨⟨_, rfl, rfl⟩, he⟩
end CF
