/-! bellHour, coffeeFor -/
theorem Inv.free {σ σ' : aW} (hI : Inv σ) (hc : ∀ c, c ≠ 109 → (c ≤ 1 ∨ 8 ≤ c ∧ c ≤ 90 ∨ 103 ≤ c ∧ c ≤ 115 ∨ c = 122 ∨ 126 ≤ c) → σ' c = σ c) (h9 : ∀ k, (k ≤ 14 ∨ k = 26 ∨ k = 32 ∨ k = 35) → σ' 109 k = σ 109 k) : Inv σ' := by
  obtain ⟨h, w, s, hK, ⟨hS, hR⟩, hH, hIm, hD, hE, hB, hT⟩ := hI
  have hw6 : w ≤ 6 := hK.1.2.2
  have e114 : σ' 114 = σ 114 := hc 114 (by omega) (by omega)
  refine ⟨h, w, s, hK.congr (fun c h1 h2 => hc c (by omega) (by omega)) (fun c h1 h2 => hc c (by omega) (by omega)) (fun k hk => h9 k (by omega)), ⟨?_, ?_⟩, hH.congr (fun c h1 h2 => hc c (by omega) (by omega)) hw6 (h9 26 (by omega)) (hc 122 (by omega) (by omega)), hIm.congr (fun c h1 h2 => hc c (by omega) (by omega)) (hc 130 (by omega) (by omega)) (hc 131 (by omega) (by omega)), hD.congr (hc 90 (by omega) (by omega)) (h9 11 (by omega)), hE.congr (fun c h1 h2 => hc c (by omega) (by omega)) (h9 32 (by omega)) (hc 126 (by omega) (by omega)) (hc 127 (by omega) (by omega)), hB.congr (fun c h1 h2 => hc c (by omega) (by omega)) (h9 35 (by omega)) (hc 128 (by omega) (by omega)) (hc 129 (by omega) (by omega)), hT.congr (hc 1 (by omega) (by omega)) (hc 8 (by omega) (by omega)) (h9 13 (by omega)) (h9 14 (by omega)) (hc 115 (by omega) (by omega))⟩
  · rw [e114]
    exact hS.same (hc 15 (by omega) (by omega)) (hc 16 (by omega) (by omega)) (hc 17 (by omega) (by omega))
  · rw [e114]
    exact hR
def bh (T : Nat → Int32) : Nat → Int32 × Int32
  | 0 => (0, T 0)
  | n + 1 => if (bh T n).2 ≤ T (n + 1) then bh T n else (nI (n + 1), T (n + 1))
theorem bh_s (T : Nat → Int32) (n : Nat) : bh T (n + 1) = if (bh T n).2 ≤ T (n + 1) then bh T n else (nI (n + 1), T (n + 1)) := by rw [bh]
section BE
variable {l : Launch} {d : Nat} {σ : aW}
theorem m_nodsS {w h : Nat} {b : Int32} (hw : σ 109 4 = nI w) (hw6 : w ≤ 6) (hh : σ 109 0 = nI h) (hh6 : h ≤ 6) (hs : ∀ q, q < 6 → σ 123 q = σ 114 q) : Sem l (d + 3) 132 [.ref 109, .int b] σ (some (.int (trN w (nI (2 ^ w - 1)) (σ 109 3) (σ 110) (σ 111) (σ 112) b (σ 114) h))) σ := by
  have := m_nodsOfAll (l := l) (d := d) (b := b) hw hw6 hh hh6
  rw [show pre 6 (σ 123) (σ 114) = σ 114 from by
    funext q
    unfold pre
    by_cases e : q < 6
    · rw [if_pos e, hs q e]
    · rw [if_neg e], sr_self] at this
  exact this
theorem bell_c {Q : Option Value → aW → Prop} {w h : Nat} {x : Int32} (hw : σ 9 4 = nI w) (hw6 : w ≤ 6) (hh : σ 9 0 = nI (h + 1)) (hh6 : h + 1 ≤ 6) {T : Nat → Int32} (hT : T = fun k => trN w (nI (2 ^ w - 1)) (σ 9 3) (σ 11) (σ 12) (σ 13) (nI k) (σ 16) (h + 1))
    (hk : ∀ g t, aE l (d + 4) none 9 cX9_bellHour (some .int) Q 103 [some (.ref 0), some (.int x), some (.int (bh T h).1), some (.int (bh T h).2), some (.int (nI (h + 1))), ti t] [] (sr σ 94 g)) : ∀ n j g t, j + n = h →
    aE l (d + 4) none 9 cX9_bellHour (some .int) Q 47 [some (.ref 0), some (.int x), some (.int (bh T j).1), some (.int (bh T j).2), some (.int (nI (j + 1))), ti t] [] (sr σ 94 g) := by
  intro n
  induction n with
  | zero =>
    intro j g t hkn
    have hkn : j = h := by omega
    subst hkn
    have h1 : nI (j + 1) ≤ nI (j + 1) := (nile (by omega) (by omega)).mpr (Nat.le_refl _)
    rw [eX9_bellHour_47]
    simp only [eX9_bellHour_49, eX9_bellHour_50, eX9_bellHour_53, eX9_bellHour_56, fx0, fx1, fx2, fx3, fx4, nl_int, nl_ref, nl_none, nl_ti, rz_nil, rz_int, rz_ref, rz_long, cf1, cf2, Option.toList_some, Option.toList_none, List.cons_append, List.nil_append, su_at, su_ne, sr_eq, sr_ne, ne_eq, Nat.reduceEqDiff, not_false_eq_true, not_true_eq_false, if_true, if_false, hh, h1, if_true]
    exact hk g t
  | succ n ih =>
    intro j g t hkn
    have h1 : ¬ nI (h + 1) ≤ nI (j + 1) := by rw [nile (by omega) (by omega)]; omega
    have h2 : ¬ (6 : Int32) ≤ nI (j + 1) := by rw [show (6 : Int32) = nI 6 from rfl, nile (by omega) (by omega)]; omega
    rw [eX9_bellHour_47]
    simp only [eX9_bellHour_49, eX9_bellHour_50, eX9_bellHour_53, eX9_bellHour_56, eX9_bellHour_59, eX9_bellHour_61, eX9_bellHour_63, eX9_bellHour_66, eX9_bellHour_67, eX9_bellHour_70, eX9_bellHour_71, eX9_bellHour_74, eX9_bellHour_75, eX9_bellHour_78, eX9_bellHour_80, fx0, fx1, fx2, fx3, fx4, nl_int, nl_ref, nl_none, nl_ti, rz_nil, rz_int, rz_ref, rz_long, cf1, cf2, Option.toList_some, Option.toList_none, List.cons_append, List.nil_append, su_at, su_ne, sr_eq, sr_ne, ne_eq, Nat.reduceEqDiff, not_false_eq_true, not_true_eq_false, if_true, if_false, hh, h1, h2, if_false]
    refine c_nodsWithBell hw hw6 hh hh6 ?_
    intro g'
    rw [show trN w (nI (2 ^ w - 1)) (σ 9 3) (σ 11) (σ 12) (σ 13) (nI (j + 1)) (σ 16) (h + 1) = T (j + 1) from by rw [hT]]
    simp only [eX9_bellHour_83, eX9_bellHour_85, eX9_bellHour_87, fx0, fx1, fx2, fx3, fx4, nl_int, nl_ref, nl_none, nl_ti, rz_nil, rz_int, rz_ref, rz_long, cf1, cf2, Option.toList_some, Option.toList_none, List.cons_append, List.nil_append]
    have key := ih (j + 1) g' (some (T (j + 1))) (by omega)
    rw [bh_s] at key
    by_cases e : (bh T j).2 ≤ T (j + 1)
    · rw [if_pos e] at key
      simp only [eX9_bellHour_88, eX9_bellHour_91, eX9_bellHour_93, eX9_bellHour_94, eX9_bellHour_96, eX9_bellHour_97, eX9_bellHour_100, fx0, fx1, fx2, fx3, fx4, nl_int, nl_ref, nl_none, nl_ti, rz_nil, rz_int, rz_ref, rz_long, cf1, cf2, Option.toList_some, Option.toList_none, List.cons_append, List.nil_append, e, if_true, nI_1]
      exact key
    · rw [if_neg e] at key
      simp only [eX9_bellHour_88, eX9_bellHour_91, eX9_bellHour_93, eX9_bellHour_94, eX9_bellHour_96, eX9_bellHour_97, eX9_bellHour_100, fx0, fx1, fx2, fx3, fx4, nl_int, nl_ref, nl_none, nl_ti, rz_nil, rz_int, rz_ref, rz_long, cf1, cf2, Option.toList_some, Option.toList_none, List.cons_append, List.nil_append, e, if_false, nI_1]
      exact key
theorem bell_m {Q : Option Value → aW → Prop} {w h : Nat} {x : Int32} (hw : σ 109 4 = nI w) (hw6 : w ≤ 6) (hh : σ 109 0 = nI (h + 1)) (hh6 : h + 1 ≤ 6) (hs : ∀ q, q < 6 → σ 123 q = σ 114 q) {T : Nat → Int32} (hT : T = fun k => trN w (nI (2 ^ w - 1)) (σ 109 3) (σ 110) (σ 111) (σ 112) (nI k) (σ 114) (h + 1))
    (hk : ∀ t, aE l (d + 4) none 10 cX10_bellHour (some .int) Q 84 [some (.ref 109), some (.int x), some (.int (bh T h).1), some (.int (bh T h).2), some (.int (nI (h + 1))), ti t] [] σ) : ∀ n j t, j + n = h →
    aE l (d + 4) none 10 cX10_bellHour (some .int) Q 35 [some (.ref 109), some (.int x), some (.int (bh T j).1), some (.int (bh T j).2), some (.int (nI (j + 1))), ti t] [] σ := by
  intro n
  induction n with
  | zero =>
    intro j t hkn
    have hkn : j = h := by omega
    subst hkn
    have h1 : nI (j + 1) ≤ nI (j + 1) := (nile (by omega) (by omega)).mpr (Nat.le_refl _)
    rw [eX10_bellHour_35]
    simp only [eX10_bellHour_37, eX10_bellHour_38, eX10_bellHour_41, fx0, fx1, fx2, fx3, fx4, nl_int, nl_ref, nl_none, nl_ti, rz_nil, rz_int, rz_ref, rz_long, cf1, cf2, Option.toList_some, Option.toList_none, List.cons_append, List.nil_append, hh, h1, if_true]
    exact hk t
  | succ n ih =>
    intro j t hkn
    have h1 : ¬ nI (h + 1) ≤ nI (j + 1) := by rw [nile (by omega) (by omega)]; omega
    rw [eX10_bellHour_35]
    simp only [eX10_bellHour_37, eX10_bellHour_38, eX10_bellHour_41, eX10_bellHour_44, eX10_bellHour_45, eX10_bellHour_47, fx0, fx1, fx2, fx3, fx4, nl_int, nl_ref, nl_none, nl_ti, rz_nil, rz_int, rz_ref, rz_long, cf1, cf2, Option.toList_some, Option.toList_none, List.cons_append, List.nil_append, hh, h1, if_false]
    refine aC.of (m_nodsS hw hw6 hh hh6 hs) ?_
    rw [show trN w (nI (2 ^ w - 1)) (σ 109 3) (σ 110) (σ 111) (σ 112) (nI (j + 1)) (σ 114) (h + 1) = T (j + 1) from by rw [hT]]
    have key := ih (j + 1) (some (T (j + 1))) (by omega)
    rw [bh_s] at key
    by_cases e : (bh T j).2 ≤ T (j + 1)
    · rw [if_pos e] at key
      simp only [eX10_bellHour_50, eX10_bellHour_52, eX10_bellHour_54, eX10_bellHour_55, eX10_bellHour_58, eX10_bellHour_60, eX10_bellHour_63, eX10_bellHour_64, eX10_bellHour_65, eX10_bellHour_67, eX10_bellHour_68, eX10_bellHour_71, eX10_bellHour_73, eX10_bellHour_76, eX10_bellHour_77, eX10_bellHour_78, eX10_bellHour_81, fx0, fx1, fx2, fx3, fx4, nl_int, nl_ref, nl_none, nl_ti, rz_nil, rz_int, rz_ref, rz_long, cf1, cf2, Option.toList_some, Option.toList_none, List.cons_append, List.nil_append, e, if_true, nI_1]
      exact key
    · rw [if_neg e] at key
      simp only [eX10_bellHour_50, eX10_bellHour_52, eX10_bellHour_54, eX10_bellHour_55, eX10_bellHour_58, eX10_bellHour_60, eX10_bellHour_63, eX10_bellHour_64, eX10_bellHour_65, eX10_bellHour_67, eX10_bellHour_68, eX10_bellHour_71, eX10_bellHour_73, eX10_bellHour_76, eX10_bellHour_77, eX10_bellHour_78, eX10_bellHour_81, fx0, fx1, fx2, fx3, fx4, nl_int, nl_ref, nl_none, nl_ti, rz_nil, rz_int, rz_ref, rz_long, cf1, cf2, Option.toList_some, Option.toList_none, List.cons_append, List.nil_append, e, if_false, nI_1]
      exact key
theorem op_bellHour (hI : Inv σ) (x : Int32) : Pair l (d + 30) 73 133 [.int x] σ := by
  have hI0 := hI
  obtain ⟨h, w, s, hK, ⟨hS, hR⟩, hH, hIm, hD, hE, hB, hT⟩ := hI
  have hw6 : w ≤ 6 := hK.1.2.2
  have k1 : σ 9 4 = nI w := hK.1.1
  have k2 : σ 109 4 = nI w := hK.1.2.1
  obtain ⟨hh6, k5, k6, -⟩ := hK.2.2.1
  refine aC_of rfl (Nat.le_of_ble_eq_true rfl) ?_
  show aE l (d + 29) none 9 cX9_bellHour (some .int) _ 0 [some (.ref 0), some (.int x), none, none, none, none] [] σ
  have hm : ∀ (P : Option Value → aW → Prop) (v : Int32) (τ : aW), inB x.toInt64 0 1 = v → aE l (d + 29) none 10 cX10_bellHour (some .int) P 7 [some (.ref 109), some (.int x), none, none, none, none] [.int v] τ → aC l (d + 30) 133 [.ref 109, .int x] τ P := by
    intro P v τ hv hP
    refine aC_of rfl (Nat.le_of_ble_eq_true rfl) ?_
    show aE l (d + 29) none 10 cX10_bellHour (some .int) _ 0 [some (.ref 109), some (.int x), none, none, none, none] [] τ
    simp only [eX10_bellHour_0, eX10_bellHour_1, eX10_bellHour_2, eX10_bellHour_3, eX10_bellHour_4, fx0, fx1, fx2, fx3, fx4, nl_int, nl_ref, nl_none, nl_ti, rz_nil, rz_int, rz_ref, rz_long, cf1, cf2, Option.toList_some, Option.toList_none, List.cons_append, List.nil_append]
    refine aC.of m_in ?_
    rw [hv]
    exact hP
  by_cases hx : x = 0 ∨ x = 1
  · have hc0 : ∀ Q, aE l (d + 29) none 9 cX9_bellHour (some .int) Q 12 [some (.ref 0), some (.int x), none, none, none, none] [] σ → aE l (d + 29) none 9 cX9_bellHour (some .int) Q 0 [some (.ref 0), some (.int x), none, none, none, none] [] σ := by
      intro Q hQ
      rcases hx with rfl | rfl
      · simp only [eX9_bellHour_0, eX9_bellHour_1, fx0, fx1, fx2, fx3, fx4, nl_int, nl_ref, nl_none, nl_ti, rz_nil, rz_int, rz_ref, rz_long, cf1, cf2, Option.toList_some, Option.toList_none, List.cons_append, List.nil_append, if_true]
        exact hQ
      · simp only [eX9_bellHour_0, eX9_bellHour_1, eX9_bellHour_4, eX9_bellHour_5, eX9_bellHour_6, fx0, fx1, fx2, fx3, fx4, nl_int, nl_ref, nl_none, nl_ti, rz_nil, rz_int, rz_ref, rz_long, cf1, cf2, Option.toList_some, Option.toList_none, List.cons_append, List.nil_append, if_true, show ¬ (1 : Int32) = 0 by decide, if_false]
        exact hQ
    have hin : inB x.toInt64 0 1 = 1 := by rcases hx with rfl | rfl <;> decide
    refine hc0 _ ?_
    simp only [eX9_bellHour_12, eX9_bellHour_13, eX9_bellHour_16, fx0, fx1, fx2, fx3, fx4, nl_int, nl_ref, nl_none, nl_ti, rz_nil, rz_int, rz_ref, rz_long, cf1, cf2, Option.toList_some, Option.toList_none, List.cons_append, List.nil_append]
    refine aC.of (c_stands (Or.inr rfl)) ?_
    rw [k5]
    by_cases h0 : h = 0
    · subst h0
      simp only [eX9_bellHour_19, eX9_bellHour_22, eX9_bellHour_24, fx0, fx1, fx2, fx3, fx4, nl_int, nl_ref, nl_none, nl_ti, rz_nil, rz_int, rz_ref, rz_long, cf1, cf2, Option.toList_some, Option.toList_none, List.cons_append, List.nil_append, show nI 0 ≤ 0 by decide, if_true]
      refine hm _ 1 _ hin ?_
      simp only [eX10_bellHour_7, eX10_bellHour_10, eX10_bellHour_12, eX10_bellHour_13, eX10_bellHour_14, eX10_bellHour_17, eX10_bellHour_20, eX10_bellHour_22, fx0, fx1, fx2, fx3, fx4, nl_int, nl_ref, nl_none, nl_ti, rz_nil, rz_int, rz_ref, rz_long, cf1, cf2, Option.toList_some, Option.toList_none, List.cons_append, List.nil_append, show ¬ (1 : Int32) = 0 by decide, if_false, k6, show nI 0 = 0 from rfl, if_true]
      exact ⟨⟨_, rfl, rfl⟩, hI0⟩
    · obtain ⟨h', rfl⟩ : ∃ h', h = h' + 1 := ⟨h - 1, by omega⟩
      have hnle : ¬ nI (h' + 1) ≤ 0 := nI_nle (by omega) (by omega)
      have hne0 : ¬ nI (h' + 1) = 0 := nI_ne0 (by omega) (by omega)
      have h1 : ¬ nI (h' + 1) ≤ 0 := hnle
      simp only [eX9_bellHour_19, eX9_bellHour_22, eX9_bellHour_24, eX9_bellHour_25, eX9_bellHour_26, eX9_bellHour_27, eX9_bellHour_28, eX9_bellHour_31, eX9_bellHour_32, eX9_bellHour_35, eX9_bellHour_36, eX9_bellHour_39, eX9_bellHour_40, fx0, fx1, fx2, fx3, fx4, nl_int, nl_ref, nl_none, nl_ti, rz_nil, rz_int, rz_ref, rz_long, cf1, cf2, Option.toList_some, Option.toList_none, List.cons_append, List.nil_append, hnle, if_false, show ¬ (1 : Int32) = 0 by decide]
      have hs0 : sr σ 94 (σ 94) = σ := sr_self σ 94
      rw [← hs0]
      refine c_nodsWithBell (d := d + 25) k1 hw6 k5 hh6 ?_
      intro g'
      simp only [eX9_bellHour_43, eX9_bellHour_44, eX9_bellHour_45, fx0, fx1, fx2, fx3, fx4, nl_int, nl_ref, nl_none, nl_ti, rz_nil, rz_int, rz_ref, rz_long, cf1, cf2, Option.toList_some, Option.toList_none, List.cons_append, List.nil_append]
      refine bell_c (d := d + 25) k1 hw6 k5 hh6 (hT := rfl) ?_ h' 0 g' none (by omega)
      intro g t
      have hTT : (fun k => trN w (nI (2 ^ w - 1)) (σ 9 3) (σ 11) (σ 12) (σ 13) (nI k) (σ 16) (h' + 1)) = (fun k => trN w (nI (2 ^ w - 1)) (σ 109 3) (σ 110) (σ 111) (σ 112) (nI k) (σ 114) (h' + 1)) := by
        funext k
        exact trN_congr hK.2.2.2.1.2.2.1 (fun q hq => ⟨(hK.2.2.2.2.1 q hq).1, (hK.2.2.2.2.1 q hq).2.1, (hK.2.2.2.2.1 q hq).2.2.1⟩) (fun q hq => hS.1 q hq) _
      rw [hTT]
      generalize hT : (fun k => trN w (nI (2 ^ w - 1)) (σ 109 3) (σ 110) (σ 111) (σ 112) (nI k) (σ 114) (h' + 1)) = T
      have hT0 : T 0 < 1000000 := by
        obtain ⟨j, j1, j2⟩ := trN_lt (w := w) (set := nI (2 ^ w - 1)) (B := σ 109 3) (mo := σ 110) (le := σ 111) (lim := σ 112) (b := nI 0) (f := σ 114) hw6 (h' + 1) hh6
        rw [← hT]
        show trN _ _ _ _ _ _ _ _ _ < 1000000
        rw [j2, show (1000000 : Int32) = nI 1000000 from rfl, nilt (by omega) (by omega)]
        omega
      have hT0' : ¬ (1000000 : Int32) ≤ T 0 := Int32.not_le.mpr hT0
      generalize hτ : sr σ 94 g = τ
      have t109 : τ 109 = σ 109 := by rw [← hτ, sr_ne (by decide)]
      have t114 : τ 114 = σ 114 := by rw [← hτ, sr_ne (by decide)]
      have hmm : ∀ P : Option Value → aW → Prop, P (some (.int (if x = 0 then (bh T h').1 else (bh T h').2))) (sr τ 123 (pre 6 (τ 114) (τ 123))) → aE l (d + 29) none 10 cX10_bellHour (some .int) P 7 [some (.ref 109), some (.int x), none, none, none, none] [.int 1] τ := by
        intro P hP
        simp only [eX10_bellHour_7, eX10_bellHour_10, eX10_bellHour_12, eX10_bellHour_13, eX10_bellHour_14, eX10_bellHour_17, eX10_bellHour_20, eX10_bellHour_22, eX10_bellHour_23, eX10_bellHour_24, fx0, fx1, fx2, fx3, fx4, nl_int, nl_ref, nl_none, nl_ti, rz_nil, rz_int, rz_ref, rz_long, cf1, cf2, Option.toList_some, Option.toList_none, List.cons_append, List.nil_append, show ¬ (1 : Int32) = 0 by decide, if_false, t109, k6, hne0]
        refine aC.of m_save ?_
        generalize hυ : sr τ 123 (pre 6 (τ 114) (τ 123)) = υ at hP ⊢
        have u : ∀ c, c ≠ 94 → c ≠ 123 → υ c = σ c := by
          intro c c1 c2
          rw [← hυ, ← hτ, sr_ne c2, sr_ne c1]
        have us : ∀ q, q < 6 → υ 123 q = υ 114 q := by
          intro q hq
          rw [u 114 (by decide) (by decide), ← hυ, sr_eq, t114]
          exact if_pos hq
        have u109 := u 109 (by decide) (by decide)
        have uT : (fun k => trN w (nI (2 ^ w - 1)) (υ 109 3) (υ 110) (υ 111) (υ 112) (nI k) (υ 114) (h' + 1)) = T := by
          rw [u109, u 110 (by decide) (by decide), u 111 (by decide) (by decide), u 112 (by decide) (by decide), u 114 (by decide) (by decide)]
          exact hT
        have h1 : ¬ nI (h' + 1) ≤ 0 := hnle
        have e4 : υ 109 4 = nI w := by rw [u109]; exact k2
        have e0 : υ 109 0 = nI (h' + 1) := by rw [u109]; exact k6
        simp only [eX10_bellHour_27, eX10_bellHour_28, eX10_bellHour_29, eX10_bellHour_31, eX10_bellHour_32, eX10_bellHour_33, fx0, fx1, fx2, fx3, fx4, nl_int, nl_ref, nl_none, nl_ti, rz_nil, rz_int, rz_ref, rz_long, cf1, cf2, Option.toList_some, Option.toList_none, List.cons_append, List.nil_append]
        rw [eX10_bellHour_35]
        simp only [eX10_bellHour_37, eX10_bellHour_38, eX10_bellHour_41, eX10_bellHour_44, eX10_bellHour_45, eX10_bellHour_47, fx0, fx1, fx2, fx3, fx4, nl_int, nl_ref, nl_none, nl_ti, rz_nil, rz_int, rz_ref, rz_long, cf1, cf2, Option.toList_some, Option.toList_none, List.cons_append, List.nil_append, e0, h1, if_false]
        refine aC.of (m_nodsS e4 hw6 e0 hh6 us) ?_
        rw [show trN w (nI (2 ^ w - 1)) (υ 109 3) (υ 110) (υ 111) (υ 112) 0 (υ 114) (h' + 1) = T 0 from by rw [← uT]; rfl]
        simp only [eX10_bellHour_50, eX10_bellHour_52, eX10_bellHour_54, eX10_bellHour_55, eX10_bellHour_58, eX10_bellHour_60, eX10_bellHour_63, eX10_bellHour_64, eX10_bellHour_65, eX10_bellHour_67, eX10_bellHour_68, eX10_bellHour_71, eX10_bellHour_73, eX10_bellHour_76, eX10_bellHour_77, eX10_bellHour_78, eX10_bellHour_81, fx0, fx1, fx2, fx3, fx4, nl_int, nl_ref, nl_none, nl_ti, rz_nil, rz_int, rz_ref, rz_long, cf1, cf2, Option.toList_some, Option.toList_none, List.cons_append, List.nil_append, hT0', if_false]
        refine bell_m (d := d + 25) (T := T) e4 hw6 e0 hh6 us uT.symm ?_ h' 0 (some (T 0)) (by omega)
        intro t
        by_cases ex : x = 0
        · rw [if_pos ex] at hP
          simp only [eX10_bellHour_84, eX10_bellHour_85, eX10_bellHour_88, eX10_bellHour_89, eX10_bellHour_92, eX10_bellHour_93, fx0, fx1, fx2, fx3, fx4, nl_int, nl_ref, nl_none, nl_ti, rz_nil, rz_int, rz_ref, rz_long, cf1, cf2, Option.toList_some, Option.toList_none, List.cons_append, List.nil_append, ex, if_true]
          exact hP
        · rw [if_neg ex] at hP
          simp only [eX10_bellHour_84, eX10_bellHour_85, eX10_bellHour_88, eX10_bellHour_89, eX10_bellHour_92, eX10_bellHour_93, fx0, fx1, fx2, fx3, fx4, nl_int, nl_ref, nl_none, nl_ti, rz_nil, rz_int, rz_ref, rz_long, cf1, cf2, Option.toList_some, Option.toList_none, List.cons_append, List.nil_append, ex, if_false]
          exact hP
      have hend : Inv (sr τ 123 (pre 6 (τ 114) (τ 123))) := by
        refine hI0.free (fun c c1 c2 => ?_) (fun k hk => ?_)
        · rw [sr_ne (by omega), ← hτ, sr_ne (by omega)]
        · rw [sr_ne (by omega), t109]
      by_cases ex : x = 0
      · simp only [eX9_bellHour_103, eX9_bellHour_104, eX9_bellHour_107, eX9_bellHour_108, eX9_bellHour_111, eX9_bellHour_112, fx0, fx1, fx2, fx3, fx4, nl_int, nl_ref, nl_none, nl_ti, rz_nil, rz_int, rz_ref, rz_long, cf1, cf2, Option.toList_some, Option.toList_none, List.cons_append, List.nil_append, ex, if_true]
        rw [← ex]
        refine hm _ 1 _ hin (hmm _ ?_)
        rw [if_pos ex]
        exact ⟨⟨_, rfl, rfl⟩, hend⟩
      · simp only [eX9_bellHour_103, eX9_bellHour_104, eX9_bellHour_107, eX9_bellHour_108, eX9_bellHour_111, eX9_bellHour_112, fx0, fx1, fx2, fx3, fx4, nl_int, nl_ref, nl_none, nl_ti, rz_nil, rz_int, rz_ref, rz_long, cf1, cf2, Option.toList_some, Option.toList_none, List.cons_append, List.nil_append, ex, if_false]
        refine hm _ 1 _ hin (hmm _ ?_)
        rw [if_neg ex]
        exact ⟨⟨_, rfl, rfl⟩, hend⟩
  · have hx0 : ¬ x = 0 := fun e => hx (Or.inl e)
    have hx1 : ¬ x = 1 := fun e => hx (Or.inr e)
    simp only [eX9_bellHour_0, eX9_bellHour_1, eX9_bellHour_4, eX9_bellHour_5, eX9_bellHour_6, eX9_bellHour_9, eX9_bellHour_11, fx0, fx1, fx2, fx3, fx4, nl_int, nl_ref, nl_none, nl_ti, rz_nil, rz_int, rz_ref, rz_long, cf1, cf2, Option.toList_some, Option.toList_none, List.cons_append, List.nil_append, hx0, hx1, if_false]
    have hin : inB x.toInt64 0 1 = 0 := by
      rcases rgc x (N := 1) (by decide) with ⟨n, hn, rfl⟩ | ⟨-, y2⟩
      · rcases (show n = 0 ∨ n = 1 by omega) with rfl | rfl
        · exact absurd rfl hx0
        · exact absurd rfl hx1
      · exact y2
    refine hm _ 0 _ hin ?_
    simp only [eX10_bellHour_7, eX10_bellHour_10, eX10_bellHour_12, fx0, fx1, fx2, fx3, fx4, nl_int, nl_ref, nl_none, nl_ti, rz_nil, rz_int, rz_ref, rz_long, cf1, cf2, Option.toList_some, Option.toList_none, List.cons_append, List.nil_append, if_true]
    exact ⟨⟨_, rfl, rfl⟩, hI0⟩
end BE
