/-! hour, coffee, undo -/
section O5
variable {l : Launch} {d : Nat} {σ : aW}
theorem fin_do {h w s n : Nat} {σ σ1 τ2 σ2 : aW} {R : Nat → Int32} (hK : KR h w s σ) (hR : Rok w (σ 114)) (hn : σ 109 26 = nI n) (hH2 : ∀ j, j < n → Rok w (fun k => σ 122 (19 * j + k))) (hIm : ImgR w σ) (hE : SeenR s σ) (hB : BookR w σ) (hT : TextR σ)
    (hist1 : HistC w σ1 (numN n) (rowC n (fun j k => σ 122 (19 * j + k)) (σ 114))) (st1 : StR w σ1 15 R) (fr1 : ∀ c, (c < 15 ∨ 80 ≤ c) → c ≠ 90 → σ1 c = σ c) (rem : mremP n σ1 τ2) (row2 : ∀ k, k < 19 → σ2 114 k = R k) (fr2 : ∀ c, c ≠ 114 → c ≠ 109 → σ2 c = τ2 c) (fr3 : ∀ k, k ≠ 11 → σ2 109 k = τ2 109 k) (okR : RokB 90060 w R) (sd : SeedR σ2) : Inv σ2 := by
  have hw6 : w ≤ 6 := hK.1.2.2
  obtain ⟨r1, r2, r3, r4⟩ := rem
  have f : ∀ c, (c < 15 ∨ 80 ≤ c) → c ≠ 90 → c ≠ 109 → c ≠ 114 → c ≠ 122 → σ2 c = σ c := fun c h1 h2 h3 h4 h5 => by rw [fr2 c h4 h3, r1 c h5 h3, fr1 c h1 h2]
  have f109 : ∀ k, k ≠ 11 → k ≠ 26 → σ2 109 k = σ 109 k := fun k h1 h2 => by rw [fr3 k h1, r2 k h2, fr1 109 (by decide) (by decide)]
  have fc : ∀ c, 15 ≤ c → c < 80 → σ2 c = σ1 c := fun c h1 h2 => by rw [fr2 c (by omega) (by omega), r1 c (by omega) (by omega)]
  have hrow : ∀ j k, j < numN n → k < 19 → σ2 122 (19 * j + k) = rowC n (fun j k => σ 122 (19 * j + k)) (σ 114) j k := by
    intro j k hj hk
    rw [fr2 122 (by decide) (by decide), r4 j k hk hj]
    unfold rowN rowC
    rw [fr1 122 (by decide) (by decide), fr1 114 (by decide) (by decide)]
    split <;> split <;> rfl
  refine ⟨h, w, s, hK.congr (fun c h1 h2 => f c (by omega) (by omega) (by omega) (by omega) (by omega)) (fun c h1 h2 => f c (by omega) (by omega) (by omega) (by omega) (by omega)) (fun k hk => f109 k (by omega) (by omega)), ⟨st1.congr (fun k hk => by rw [fc 15 (by decide) (by decide)]) (fun k hk => by rw [show 15 + 1 = 16 from rfl, fc 16 (by decide) (by decide)]) (fun k hk => by rw [show 15 + 2 = 17 from rfl, fc 17 (by decide) (by decide)]) hw6 row2, Rok.congr okR hw6 row2⟩, ⟨numN n, by rw [fr3 26 (by decide), r3], hist1.congr (fun c h1 h2 => fc c (by omega) h2) hw6 hrow, fun j hj => ?_⟩, hIm.congr (fun c h1 h2 => f c (by omega) (by omega) (by omega) (by omega) (by omega)) (f 130 (by decide) (by decide) (by decide) (by decide) (by decide)) (f 131 (by decide) (by decide) (by decide) (by decide) (by decide)), sd, hE.congr (fun c h1 h2 => f c (by omega) (by omega) (by omega) (by omega) (by omega)) (f109 32 (by decide) (by decide)) (f 126 (by decide) (by decide) (by decide) (by decide) (by decide)) (f 127 (by decide) (by decide) (by decide) (by decide) (by decide)), hB.congr (fun c h1 h2 => f c (by omega) (by omega) (by omega) (by omega) (by omega)) (f109 35 (by decide) (by decide)) (f 128 (by decide) (by decide) (by decide) (by decide) (by decide)) (f 129 (by decide) (by decide) (by decide) (by decide) (by decide)), hT.congr (f 1 (by decide) (by decide) (by decide) (by decide) (by decide)) (f 8 (by decide) (by decide) (by decide) (by decide) (by decide)) (f109 13 (by decide) (by decide)) (f109 14 (by decide) (by decide)) (f 115 (by decide) (by decide) (by decide) (by decide) (by decide))⟩
  refine Rok.congr (r := rowC n (fun j k => σ 122 (19 * j + k)) (σ 114) j) ?_ hw6 (fun k hk => hrow j k hj hk)
  unfold rowC
  unfold numN at hj
  by_cases h20 : n < 20
  · rw [if_pos h20] at hj ⊢
    split
    · next hj2 => exact hH2 j hj2
    · exact hR
  · rw [if_neg h20] at hj ⊢
    split
    · next hj2 => exact hH2 (j + 1) (by omega)
    · exact hR
theorem op_hour (hI : Inv σ) (set b : Int32) (hb : b = 0 ∨ b = 1) : Pair l (d + 30) 67 119 [.int set, .int b] σ := by
  have hI0 := hI
  obtain ⟨h, w, s, hK, ⟨hS, hR⟩, hH, hIm, hD, hE, hB, hT⟩ := hI
  have hw6 : w ≤ 6 := hK.1.2.2
  have k1 : σ 9 4 = nI w := hK.1.1
  have k2 : σ 109 4 = nI w := hK.1.2.1
  have k3 : σ 9 5 = nI s := hK.2.1.1
  have k4 : σ 109 8 = nI s := hK.2.1.2.1
  have hs8 : s ≤ 8 := hK.2.1.2.2
  have k5 : σ 9 0 = nI h := hK.2.2.1.2.1
  have k6 : σ 109 0 = nI h := hK.2.2.1.2.2.1
  have hh6 : h ≤ 6 := hK.2.2.1.1
  have s0 : σ 15 0 = σ 114 12 := hS.2.2 0 (by decide)
  obtain ⟨n, hn, hH1, hH2⟩ := hH
  refine aC_of rfl (Nat.le_of_ble_eq_true rfl) ?_
  show aE l (d + 29) none 9 cX9_hour (some .int) _ 0 [some (.ref 0), some (.int set), some (.int b)] [] σ
  simp only [eX9_hour_0, eX9_hour_1, eX9_hour_4, eX9_hour_5, fx0, fx1, fx2, fx3, fx4, nl_int, nl_ref, nl_none, nl_ti, rz_nil, rz_int, rz_ref, rz_long, cf1, cf2, Option.toList_some, Option.toList_none, List.cons_append, List.nil_append]
  refine aC.of (c_hasAll (Or.inr rfl)) ?_
  rw [k1]
  have hm : ∀ (τ : aW) (P : Option Value → aW → Prop) (v : Int32), τ 109 4 = nI w → inB set.toInt64 0 ((1 : Int32) <<< (nI w &&& 31) - 1).toInt64 = v → aE l (d + 29) none 10 cX10_hour (some .int) P 5 [some (.ref 109), some (.int set), some (.int b)] [.int v] τ → aC l (d + 30) 119 [.ref 109, .int set, .int b] τ P := by
    intro τ P v k2 hv hP
    refine aC_of rfl (Nat.le_of_ble_eq_true rfl) ?_
    show aE l (d + 29) none 10 cX10_hour (some .int) _ 0 [some (.ref 109), some (.int set), some (.int b)] [] τ
    simp only [eX10_hour_0, eX10_hour_1, eX10_hour_2, fx0, fx1, fx2, fx3, fx4, nl_int, nl_ref, nl_none, nl_ti, rz_nil, rz_int, rz_ref, rz_long, cf1, cf2, Option.toList_some, Option.toList_none, List.cons_append, List.nil_append]
    refine aC.of m_isSet ?_
    rw [k2, hv]
    exact hP
  rcases setc set hw6 with ⟨m, hm1, rfl⟩ | ⟨z1, z2⟩
  · obtain ⟨o1, o2⟩ := setc1 hw6 hm1
    rw [if_pos o1]
    simp only [eX9_hour_8, eX9_hour_11, eX9_hour_13, eX9_hour_14, eX9_hour_15, eX9_hour_18, fx0, fx1, fx2, fx3, fx4, nl_int, nl_ref, nl_none, nl_ti, rz_nil, rz_int, rz_ref, rz_long, cf1, cf2, Option.toList_some, Option.toList_none, List.cons_append, List.nil_append, show ¬ (1 : Int32) = 0 by decide, if_false]
    refine aC.of (c_stands (Or.inr rfl)) ?_
    rw [k5]
    by_cases h0 : h = 0
    · subst h0
      simp only [eX9_hour_21, eX9_hour_24, eX9_hour_26, fx0, fx1, fx2, fx3, fx4, nl_int, nl_ref, nl_none, nl_ti, rz_nil, rz_int, rz_ref, rz_long, cf1, cf2, Option.toList_some, Option.toList_none, List.cons_append, List.nil_append, show nI 0 ≤ 0 by decide, if_true]
      refine hm _ _ 1 k2 o2 ?_
      simp only [eX10_hour_5, eX10_hour_8, eX10_hour_10, eX10_hour_11, eX10_hour_12, eX10_hour_15, eX10_hour_18, eX10_hour_20, fx0, fx1, fx2, fx3, fx4, nl_int, nl_ref, nl_none, nl_ti, rz_nil, rz_int, rz_ref, rz_long, cf1, cf2, Option.toList_some, Option.toList_none, List.cons_append, List.nil_append, show ¬ (1 : Int32) = 0 by decide, if_false, k6, show nI 0 = 0 from rfl, if_true]
      exact ⟨⟨_, rfl, rfl⟩, hI0⟩
    · have hnle : ¬ nI h ≤ 0 := nI_nle (by omega) (by omega)
      have hne0 : ¬ nI h = 0 := nI_ne0 (by omega) (by omega)
      simp only [eX9_hour_21, eX9_hour_24, eX9_hour_26, eX9_hour_27, eX9_hour_28, eX9_hour_31, eX9_hour_34, eX9_hour_36, fx0, fx1, fx2, fx3, fx4, nl_int, nl_ref, nl_none, nl_ti, rz_nil, rz_int, rz_ref, rz_long, cf1, cf2, Option.toList_some, Option.toList_none, List.cons_append, List.nil_append, hnle, if_false, show ¬ (1 : Int32) = 0 by decide, s0]
      by_cases hf : σ 114 12 ≤ 90000
      · simp only [hf, if_true, eX9_hour_42, eX9_hour_43, eX9_hour_46, eX9_hour_47, eX9_hour_50, fx0, fx1, fx2, fx3, fx4, nl_int, nl_ref, nl_none, nl_ti, rz_nil, rz_int, rz_ref, rz_long, cf1, cf2, Option.toList_some, Option.toList_none, List.cons_append, List.nil_append]
        refine (c_remC hH1 hS hw6).mono ?_
        rintro ro τ ⟨rfl, hist, fr⟩
        simp only [eX9_hour_53, eX9_hour_54, eX9_hour_57, eX9_hour_58, eX9_hour_61, eX9_hour_62, eX9_hour_63, fx0, fx1, fx2, fx3, fx4, nl_int, nl_ref, nl_none, nl_ti, rz_nil, rz_int, rz_ref, rz_long, cf1, cf2, Option.toList_some, Option.toList_none, List.cons_append, List.nil_append]
        have t9 : τ 9 = σ 9 := fr 9 (by decide)
        refine (c_passWatched (by rw [t9]; exact k1) hw6 (by rw [t9]; exact k3) hs8 (by rw [t9, k5]; exact hnle)).mono ?_
        rintro ro σ1 ⟨rfl, hp⟩
        simp only [eX9_hour_66, eX9_hour_67, eX9_hour_70, eX9_hour_73, fx0, fx1, fx2, fx3, fx4, nl_int, nl_ref, nl_none, nl_ti, rz_nil, rz_int, rz_ref, rz_long, cf1, cf2, Option.toList_some, Option.toList_none, List.cons_append, List.nil_append]
        have hKτ : KC h w s σ τ := KC.congr hK (fun c h1 h2 => fr c (by omega))
        have hSτ : StR w τ 15 (σ 114) := hS.same (fr 15 (by decide)) (fr 16 (by decide)) (fr 17 (by decide))
        have st1 := hour_St hKτ hSτ hm1 hp
        have fr1 : ∀ c, (c < 15 ∨ 80 ≤ c) → c ≠ 90 → σ1 c = σ c := fun c h1 h2 => by rw [hp.1 c (by omega) (by omega) (by omega), fr c (by omega)]
        have e109 := fr1 109 (by decide) (by decide)
        have e114 := fr1 114 (by decide) (by decide)
        refine hm _ _ 1 (by rw [e109]; exact k2) o2 ?_
        simp only [eX10_hour_5, eX10_hour_8, eX10_hour_10, eX10_hour_11, eX10_hour_12, eX10_hour_15, eX10_hour_18, eX10_hour_20, eX10_hour_21, eX10_hour_22, eX10_hour_25, eX10_hour_27, eX10_hour_28, eX10_hour_30, eX10_hour_33, eX10_hour_35, eX10_hour_36, eX10_hour_37, fx0, fx1, fx2, fx3, fx4, nl_int, nl_ref, nl_none, nl_ti, rz_nil, rz_int, rz_ref, rz_long, cf1, cf2, Option.toList_some, Option.toList_none, List.cons_append, List.nil_append, show ¬ (1 : Int32) = 0 by decide, if_false, e109, k6, hne0, e114, hf, if_true, vi19, true_and]
        refine (m_remember (n := n) (by rw [e109]; exact hn) hH1.1).mono ?_
        rintro ro τ2 ⟨rfl, hr⟩
        simp only [eX10_hour_40, eX10_hour_41, eX10_hour_42, eX10_hour_43, fx0, fx1, fx2, fx3, fx4, nl_int, nl_ref, nl_none, nl_ti, rz_nil, rz_int, rz_ref, rz_long, cf1, cf2, Option.toList_some, Option.toList_none, List.cons_append, List.nil_append]
        have q4 : τ2 109 4 = nI w := by rw [hr.2.1 4 (by decide), e109]; exact k2
        have q8 : τ2 109 8 = nI s := by rw [hr.2.1 8 (by decide), e109]; exact k4
        have q0 : ¬ τ2 109 0 = 0 := by rw [hr.2.1 0 (by decide), e109, k6]; exact hne0
        refine (m_hourBy q4 hw6 q8 hs8 q0).mono ?_
        rintro ro σ2 ⟨rfl, hq⟩
        simp only [eX10_hour_46, eX10_hour_47, eX10_hour_50, eX10_hour_52, eX10_hour_53, fx0, fx1, fx2, fx3, fx4, nl_int, nl_ref, nl_none, nl_ti, rz_nil, rz_int, rz_ref, rz_long, cf1, cf2, Option.toList_some, Option.toList_none, List.cons_append, List.nil_append, vi19, true_and]
        have t114 : τ2 114 = σ 114 := by rw [hr.1 114 (by decide) (by decide), e114]
        have hKM : KM σ τ2 := ⟨fun k hk => by rw [hr.2.1 k (by omega), e109], fun c h1 h2 => by rw [hr.1 c (by omega) (by omega), fr1 c (by omega) (by omega)]⟩
        have row2 := hourM hKM hw6 hq
        rw [t114] at row2
        refine ⟨⟨_, rfl, ?_⟩, ?_⟩
        · rw [row2 15 (by decide), ← st1.2.2 3 (by decide)]
        · obtain ⟨R1, ⟨hh, R2, R3, R4⟩, R5⟩ := hR
          have hh9 : hh ≤ 90000 := by
            rw [R3, show (90000 : Int32) = nI 90000 from rfl, nile (by omega) (by omega)] at hf
            exact hf
          have okR := rowH_ok (b := 90000) (set := nI m) (rung := b) hK (by decide) ⟨R1, ⟨hh, hh9, R3, R4⟩, R5⟩
          have okR2 : RokB 90060 w (rowH w s σ (nI m) b (σ 114)) := by
            obtain ⟨a1, ⟨h9, a2, a3, a4⟩, a5⟩ := okR
            exact ⟨a1, ⟨h9, by omega, a3, a4⟩, a5⟩
          refine fin_do hK ⟨R1, ⟨hh, R2, R3, R4⟩, R5⟩ hn hH2 hIm hE hB hT (hist.congr (fun c h1 h2 => hp.1 c (by omega) (by omega) (by omega)) hw6 (fun _ _ _ _ => rfl)) st1 fr1 hr row2 (fun c h1 h2 => hq.1 c h1) (fun k hk => by rw [hq.1 109 (by decide)]) okR2 (hD.congr ?_ ?_)
          · rw [hq.1 90 (by decide), hr.1 90 (by decide) (by decide), hp.1 90 (by decide) (by decide) (by decide), fr 90 (by decide)]
          · rw [hq.1 109 (by decide), hr.2.1 11 (by decide), e109]
      · simp only [hf, if_false, eX9_hour_39, eX9_hour_41, fx0, fx1, fx2, fx3, fx4, nl_int, nl_ref, nl_none, nl_ti, rz_nil, rz_int, rz_ref, rz_long, cf1, cf2, Option.toList_some, Option.toList_none, List.cons_append, List.nil_append]
        refine hm _ _ 1 k2 o2 ?_
        simp only [eX10_hour_5, eX10_hour_8, eX10_hour_10, eX10_hour_11, eX10_hour_12, eX10_hour_15, eX10_hour_18, eX10_hour_20, eX10_hour_21, eX10_hour_22, eX10_hour_25, eX10_hour_27, eX10_hour_28, eX10_hour_30, eX10_hour_33, eX10_hour_35, fx0, fx1, fx2, fx3, fx4, nl_int, nl_ref, nl_none, nl_ti, rz_nil, rz_int, rz_ref, rz_long, cf1, cf2, Option.toList_some, Option.toList_none, List.cons_append, List.nil_append, show ¬ (1 : Int32) = 0 by decide, if_false, k6, hne0, hf, vi19, true_and]
        exact ⟨⟨_, rfl, rfl⟩, hI0⟩
  · rw [if_neg z1]
    simp only [eX9_hour_8, eX9_hour_11, eX9_hour_13, fx0, fx1, fx2, fx3, fx4, nl_int, nl_ref, nl_none, nl_ti, rz_nil, rz_int, rz_ref, rz_long, cf1, cf2, Option.toList_some, Option.toList_none, List.cons_append, List.nil_append, if_true]
    refine hm _ _ 0 k2 z2 ?_
    simp only [eX10_hour_5, eX10_hour_8, eX10_hour_10, fx0, fx1, fx2, fx3, fx4, nl_int, nl_ref, nl_none, nl_ti, rz_nil, rz_int, rz_ref, rz_long, cf1, cf2, Option.toList_some, Option.toList_none, List.cons_append, List.nil_append, if_true]
    exact ⟨⟨_, rfl, rfl⟩, hI0⟩
theorem c_afterCoffee {t : Int32} : Sem l (d + 1) 90 [.int t] σ (some (.int (mx0 (t - 30)))) σ := by
  refine Sem_of rfl (Nat.le_of_ble_eq_true rfl) ?_
  show aE l d none 9 cX9_afterCoffee (some .int) _ 0 [some (.int t)] [] σ
  simp only [eX9_afterCoffee_0, eX9_afterCoffee_1, eX9_afterCoffee_2, eX9_afterCoffee_4, eX9_afterCoffee_5, eX9_afterCoffee_8, fx0, fx1, fx2, fx3, fx4, nl_int, nl_ref, nl_none, nl_ti, rz_nil, rz_int, rz_ref, rz_long, cf1, cf2, Option.toList_some, Option.toList_none, List.cons_append, List.nil_append]
  exact ⟨rfl, trivial⟩
def rowK (p : Nat) (r : Nat → Int32) : Nat → Int32 := fun k => if k = p then mx0 (r p - 30) else if k = 18 then r 18 ||| (1 <<< (nI p &&& 31)) else r k
theorem op_coffee (hI : Inv σ) (x : Int32) : Pair l (d + 30) 68 120 [.int x] σ := by
  have hI0 := hI
  obtain ⟨h, w, s, hK, ⟨hS, hR⟩, hH, hIm, hD, hE, hB, hT⟩ := hI
  have hw6 : w ≤ 6 := hK.1.2.2
  have k1 : σ 9 4 = nI w := hK.1.1
  have k2 : σ 109 4 = nI w := hK.1.2.1
  have s6 : σ 15 6 = σ 114 18 := hS.2.2 6 (by decide)
  obtain ⟨n, hn, hH1, hH2⟩ := hH
  refine aC_of rfl (Nat.le_of_ble_eq_true rfl) ?_
  show aE l (d + 29) none 9 cX9_coffee (some .int) _ 0 [some (.ref 0), some (.int x)] [] σ
  simp only [eX9_coffee_0, eX9_coffee_1, eX9_coffee_4, eX9_coffee_5, fx0, fx1, fx2, fx3, fx4, nl_int, nl_ref, nl_none, nl_ti, rz_nil, rz_int, rz_ref, rz_long, cf1, cf2, Option.toList_some, Option.toList_none, List.cons_append, List.nil_append]
  refine aC.of (c_hasWatcher (Or.inr rfl)) ?_
  rw [k1]
  have hm : ∀ (τ : aW) (P : Option Value → aW → Prop) (v : Int32), τ 109 4 = nI w → inB x.toInt64 0 (nI w - 1).toInt64 = v → aE l (d + 29) none 10 cX10_coffee (some .int) P 5 [some (.ref 109), some (.int x)] [.int v] τ → aC l (d + 30) 120 [.ref 109, .int x] τ P := by
    intro τ P v k2 hv hP
    refine aC_of rfl (Nat.le_of_ble_eq_true rfl) ?_
    show aE l (d + 29) none 10 cX10_coffee (some .int) _ 0 [some (.ref 109), some (.int x)] [] τ
    simp only [eX10_coffee_0, eX10_coffee_1, eX10_coffee_2, fx0, fx1, fx2, fx3, fx4, nl_int, nl_ref, nl_none, nl_ti, rz_nil, rz_int, rz_ref, rz_long, cf1, cf2, Option.toList_some, Option.toList_none, List.cons_append, List.nil_append]
    refine aC.of m_isWatcher ?_
    rw [k2, hv]
    exact hP
  rcases wat x hw6 with ⟨p, hp, rfl⟩ | ⟨z1, z2⟩
  · obtain ⟨o1, o2⟩ := wat1 hp hw6
    have hin : vp_in (nI p) 6 := vin (by omega) (by decide)
    have hin2 : vp_in (nI p) 19 := vin (by omega) (by decide)
    have hcl : (nI p).toNatClampNeg = p := nic (by omega)
    rw [o1]
    simp only [eX9_coffee_8, eX9_coffee_11, eX9_coffee_13, eX9_coffee_14, eX9_coffee_15, eX9_coffee_18, eX9_coffee_21, eX9_coffee_22, eX9_coffee_23, eX9_coffee_24, eX9_coffee_25, fx0, fx1, fx2, fx3, fx4, nl_int, nl_ref, nl_none, nl_ti, rz_nil, rz_int, rz_ref, rz_long, cf1, cf2, Option.toList_some, Option.toList_none, List.cons_append, List.nil_append, show ¬ (1 : Int32) = 0 by decide, if_false, s6]
    by_cases hc : σ 114 18 >>> (nI p &&& 31) &&& 1 = 0
    · simp only [hc, if_true, eX9_coffee_31, eX9_coffee_32, eX9_coffee_35, eX9_coffee_36, eX9_coffee_39, fx0, fx1, fx2, fx3, fx4, nl_int, nl_ref, nl_none, nl_ti, rz_nil, rz_int, rz_ref, rz_long, cf1, cf2, Option.toList_some, Option.toList_none, List.cons_append, List.nil_append]
      refine (c_remC hH1 hS hw6).mono ?_
      rintro ro τ ⟨rfl, hist, fr⟩
      have t15 : τ 15 = σ 15 := fr 15 (by decide)
      have t16 : τ 16 = σ 16 := fr 16 (by decide)
      have t17 : τ 17 = σ 17 := fr 17 (by decide)
      simp only [eX9_coffee_42, eX9_coffee_43, eX9_coffee_46, eX9_coffee_47, eX9_coffee_50, eX9_coffee_51, eX9_coffee_52, eX9_coffee_53, eX9_coffee_54, eX9_coffee_57, eX9_coffee_58, eX9_coffee_61, eX9_coffee_64, eX9_coffee_65, eX9_coffee_66, eX9_coffee_69, eX9_coffee_72, eX9_coffee_73, eX9_coffee_74, fx0, fx1, fx2, fx3, fx4, nl_int, nl_ref, nl_none, nl_ti, rz_nil, rz_int, rz_ref, rz_long, cf1, cf2, Option.toList_some, Option.toList_none, List.cons_append, List.nil_append, su_at, su_ne, sr_eq, sr_ne, ne_eq, Nat.reduceEqDiff, not_false_eq_true, not_true_eq_false, if_true, if_false, hin, hcl, true_and]
      refine aC.of c_afterCoffee ?_
      simp only [eX9_coffee_77, eX9_coffee_78, eX9_coffee_79, eX9_coffee_82, eX9_coffee_85, eX9_coffee_86, eX9_coffee_87, fx0, fx1, fx2, fx3, fx4, nl_int, nl_ref, nl_none, nl_ti, rz_nil, rz_int, rz_ref, rz_long, cf1, cf2, Option.toList_some, Option.toList_none, List.cons_append, List.nil_append, su_at, su_ne, sr_eq, sr_ne, ne_eq, Nat.reduceEqDiff, not_false_eq_true, not_true_eq_false, if_true, if_false, hin, hcl, true_and, t15, t16, s6]
      have s1 : σ 16 p = σ 114 p := hS.1 p hp
      rw [s1]
      have st1 : StR w (su (su τ 15 6 (σ 114 18 ||| 1 <<< (nI p &&& 31))) 16 p (mx0 (σ 114 p - 30))) 15 (rowK p (σ 114)) := by
        unfold StR rowK
        simp only [su_at, su_ne, sr_eq, sr_ne, ne_eq, Nat.reduceEqDiff, not_false_eq_true, not_true_eq_false, if_true, if_false, t15, t16, t17]
        refine ⟨fun q hq => ?_, fun q hq => ?_, fun k hk => ?_⟩
        · by_cases hqp : q = p
          · rw [if_pos hqp, if_pos hqp]
          · rw [if_neg hqp, if_neg hqp, if_neg (by omega)]
            exact hS.1 q hq
        · rw [if_neg (by omega), if_neg (by omega)]
          exact hS.2.1 q hq
        · rw [if_neg (by omega : ¬ 12 + k = p)]
          by_cases hk6 : k = 6
          · subst hk6
            rfl
          · rw [if_neg hk6, if_neg (by omega)]
            exact hS.2.2 k hk
      have fr1 : ∀ c, (c < 15 ∨ 80 ≤ c) → c ≠ 90 → su (su τ 15 6 (σ 114 18 ||| 1 <<< (nI p &&& 31))) 16 p (mx0 (σ 114 p - 30)) c = σ c := fun c h1 h2 => by rw [su_ne (by omega), su_ne (by omega), fr c (by omega)]
      have fr90 : su (su τ 15 6 (σ 114 18 ||| 1 <<< (nI p &&& 31))) 16 p (mx0 (σ 114 p - 30)) 90 = σ 90 := by rw [su_ne (by omega), su_ne (by omega), fr 90 (by decide)]
      have hist1 : HistC w (su (su τ 15 6 (σ 114 18 ||| 1 <<< (nI p &&& 31))) 16 p (mx0 (σ 114 p - 30))) (numN n) (rowC n (fun j k => σ 122 (19 * j + k)) (σ 114)) := hist.congr (fun c h1 h2 => by rw [su_ne (by omega), su_ne (by omega)]) hw6 (fun _ _ _ _ => rfl)
      generalize su (su τ 15 6 (σ 114 18 ||| 1 <<< (nI p &&& 31))) 16 p (mx0 (σ 114 p - 30)) = σ1 at st1 fr1 fr90 hist1 ⊢
      have e109 := fr1 109 (by decide) (by decide)
      have e114 := fr1 114 (by decide) (by decide)
      refine hm _ _ 1 (by rw [e109]; exact k2) o2 ?_
      simp only [eX10_coffee_5, eX10_coffee_8, eX10_coffee_10, eX10_coffee_11, eX10_coffee_12, eX10_coffee_15, eX10_coffee_17, eX10_coffee_18, eX10_coffee_19, fx0, fx1, fx2, fx3, fx4, nl_int, nl_ref, nl_none, nl_ti, rz_nil, rz_int, rz_ref, rz_long, cf1, cf2, Option.toList_some, Option.toList_none, List.cons_append, List.nil_append, show ¬ (1 : Int32) = 0 by decide, if_false, e114, vi19, true_and]
      refine aC.of m_has ?_
      rw [hB_bit, hc]
      simp only [eX10_coffee_22, eX10_coffee_25, eX10_coffee_27, eX10_coffee_28, eX10_coffee_29, fx0, fx1, fx2, fx3, fx4, nl_int, nl_ref, nl_none, nl_ti, rz_nil, rz_int, rz_ref, rz_long, cf1, cf2, Option.toList_some, Option.toList_none, List.cons_append, List.nil_append, if_true]
      refine (m_remember (n := n) (by rw [e109]; exact hn) hH1.1).mono ?_
      rintro ro τ2 ⟨rfl, hr⟩
      have t114 : τ2 114 = σ 114 := by rw [hr.1 114 (by decide) (by decide), e114]
      simp only [eX10_coffee_32, eX10_coffee_33, eX10_coffee_36, eX10_coffee_37, eX10_coffee_38, eX10_coffee_41, eX10_coffee_42, eX10_coffee_43, eX10_coffee_45, eX10_coffee_46, eX10_coffee_47, fx0, fx1, fx2, fx3, fx4, nl_int, nl_ref, nl_none, nl_ti, rz_nil, rz_int, rz_ref, rz_long, cf1, cf2, Option.toList_some, Option.toList_none, List.cons_append, List.nil_append, hin2, hcl, true_and, t114]
      refine aC.of m_atLeast ?_
      have p18 : ¬ (18 : Nat) = p := by omega
      have p18b : ¬ p = 18 := by omega
      simp only [eX10_coffee_50, eX10_coffee_51, eX10_coffee_52, eX10_coffee_55, eX10_coffee_57, eX10_coffee_58, eX10_coffee_59, eX10_coffee_60, eX10_coffee_61, eX10_coffee_62, eX10_coffee_63, eX10_coffee_64, eX10_coffee_65, eX10_coffee_68, eX10_coffee_69, eX10_coffee_70, fx0, fx1, fx2, fx3, fx4, nl_int, nl_ref, nl_none, nl_ti, rz_nil, rz_int, rz_ref, rz_long, cf1, cf2, Option.toList_some, Option.toList_none, List.cons_append, List.nil_append, su_at, su_ne, sr_eq, sr_ne, ne_eq, Nat.reduceEqDiff, not_false_eq_true, not_true_eq_false, if_true, if_false, hin2, hcl, vi19, true_and, t114, p18, p18b]
      refine ⟨⟨_, rfl, rfl⟩, ?_⟩
      refine fin_do hK hR hn hH2 hIm hE hB hT hist1 st1 fr1 hr (fun k hk => ?_) (fun c h1 h2 => by rw [su_ne h1, su_ne h1]) (fun k hk => by simp only [su_at, su_ne, sr_eq, sr_ne, ne_eq, Nat.reduceEqDiff, not_false_eq_true, not_true_eq_false, if_true, if_false]) ?_ (hD.congr ?_ ?_)
      · unfold rowK
        simp only [su_at, su_ne, sr_eq, sr_ne, ne_eq, Nat.reduceEqDiff, not_false_eq_true, not_true_eq_false, if_true, if_false, t114]
        by_cases h1 : k = p
        · rw [if_pos h1, if_neg (by omega), if_pos h1]
          rfl
        · by_cases h2 : k = 18
          · simp only [h1, h2, p18, if_true, if_false]
          · simp only [h1, h2, if_false]
      · obtain ⟨R1, ⟨hh, R2, R3, R4⟩, R5⟩ := hR
        refine ⟨fun q hq => ?_, ⟨hh, R2, ?_, fun q hq => ?_⟩, fun q hq1 hq2 => ?_⟩
        · unfold rowK
          by_cases h1 : q = p
          · rw [if_pos h1]
            obtain ⟨a, ha, hb⟩ := R1 p hp
            obtain ⟨b, hb1, hb2⟩ := bd_mx0 (a := a) (b := 30) (by omega) (by omega)
            rw [hb]
            exact ⟨b, by omega, hb2⟩
          · rw [if_neg h1, if_neg (by omega)]
            exact R1 q hq
        · unfold rowK
          rw [if_neg (by omega), if_neg (by omega)]
          exact R3
        · unfold rowK
          rw [if_neg (by omega), if_neg (by omega)]
          exact R4 q hq
        · unfold rowK
          rw [if_neg (by omega), if_neg (by omega)]
          exact R5 q hq1 hq2
      · rw [su_ne (by decide), su_ne (by decide), hr.1 90 (by decide) (by decide), fr90]
      · rw [su_ne (by decide), su_ne (by decide), hr.2.1 11 (by decide), e109]
    · have hc1 : σ 114 18 >>> (nI p &&& 31) &&& 1 = 1 := (bit01 _).resolve_left hc
      simp only [hc, if_false, eX9_coffee_28, eX9_coffee_30, fx0, fx1, fx2, fx3, fx4, nl_int, nl_ref, nl_none, nl_ti, rz_nil, rz_int, rz_ref, rz_long, cf1, cf2, Option.toList_some, Option.toList_none, List.cons_append, List.nil_append]
      refine hm _ _ 1 k2 o2 ?_
      simp only [eX10_coffee_5, eX10_coffee_8, eX10_coffee_10, eX10_coffee_11, eX10_coffee_12, eX10_coffee_15, eX10_coffee_17, eX10_coffee_18, eX10_coffee_19, fx0, fx1, fx2, fx3, fx4, nl_int, nl_ref, nl_none, nl_ti, rz_nil, rz_int, rz_ref, rz_long, cf1, cf2, Option.toList_some, Option.toList_none, List.cons_append, List.nil_append, show ¬ (1 : Int32) = 0 by decide, if_false, vi19, true_and]
      refine aC.of m_has ?_
      rw [hB_bit, hc1]
      simp only [eX10_coffee_22, eX10_coffee_25, eX10_coffee_27, fx0, fx1, fx2, fx3, fx4, nl_int, nl_ref, nl_none, nl_ti, rz_nil, rz_int, rz_ref, rz_long, cf1, cf2, Option.toList_some, Option.toList_none, List.cons_append, List.nil_append, show ¬ (1 : Int32) = 0 by decide, if_false]
      exact ⟨⟨_, rfl, rfl⟩, hI0⟩
  · rw [z1]
    simp only [eX9_coffee_8, eX9_coffee_11, eX9_coffee_13, fx0, fx1, fx2, fx3, fx4, nl_int, nl_ref, nl_none, nl_ti, rz_nil, rz_int, rz_ref, rz_long, cf1, cf2, Option.toList_some, Option.toList_none, List.cons_append, List.nil_append, if_true]
    refine hm _ _ 0 k2 z2 ?_
    simp only [eX10_coffee_5, eX10_coffee_8, eX10_coffee_10, fx0, fx1, fx2, fx3, fx4, nl_int, nl_ref, nl_none, nl_ti, rz_nil, rz_int, rz_ref, rz_long, cf1, cf2, Option.toList_some, Option.toList_none, List.cons_append, List.nil_append, if_true]
    exact ⟨⟨_, rfl, rfl⟩, hI0⟩
end O5
