/-! contract: the model, and both sides -/
section CM
variable {l : Launch} {d : Nat} {σ : aW}
theorem m_contract {n : Nat} {P : Option Value → aW → Prop} (hn : n ≤ 220) (h1 : σ 109 13 = nI n) (hb : ∀ j, j < n → bd 255 (σ 115 j))
    (hF : ¬ (txR (σ 115) n).2.2.1 = 0 → ∀ τ, τ 109 13 = 0 → τ 109 14 = (txR (σ 115) n).2.2.2 → (∀ a, a ≠ 109 → a < 116 ∨ 121 < a → τ a = σ a) → (∀ k, k ≠ 13 → k ≠ 14 → k ≠ 15 → k ≠ 16 → k ≠ 17 → k ≠ 19 → k ≠ 24 → τ 109 k = σ 109 k) → P (some (.int (-10 - (txR (σ 115) n).2.2.1))) τ)
    (hO : (txR (σ 115) n).2.2.1 = 0 → ∀ τ, mOut σ τ (txR (σ 115) n).1 (txR (σ 115) n).2.2.2 → P (some (.int (nI (txR (σ 115) n).1.2.2.1))) τ) : aC l (d + 30) 109 [.ref 109] σ P := by
  refine aC_of rfl (Nat.le_of_ble_eq_true rfl) ?_
  show aE l (d + 29) none 10 cX10_contract (some .int) _ 0 [some (.ref 109), none] [] σ
  have i4 : vp_in 0 4 ∧ vp_in 1 4 ∧ vp_in 2 4 ∧ vp_in 3 4 := ⟨vin (n := 0) (by decide) (by decide), vin (n := 1) (by decide) (by decide), vin (n := 2) (by decide) (by decide), vin (n := 3) (by decide) (by decide)⟩
  have l4 : ¬ (4 : Int32) ≤ 0 ∧ ¬ (4 : Int32) ≤ 1 ∧ ¬ (4 : Int32) ≤ 2 ∧ ¬ (4 : Int32) ≤ 3 ∧ (4 : Int32) ≤ 4 := by decide
  have a4 : (0 : Int32) + 1 = 1 ∧ (1 : Int32) + 1 = 2 ∧ (2 : Int32) + 1 = 3 ∧ (3 : Int32) + 1 = 4 := by decide
  simp only [eX10_contract_0, eX10_contract_1, eX10_contract_2, eX10_contract_5, eX10_contract_6, eX10_contract_7, eX10_contract_10, eX10_contract_11, fx0, fx1, fx2, fx3, fx4, nl_int, nl_ref, nl_none, nl_ti, rz_nil, rz_int, rz_ref, rz_long, cf1, cf2, Option.toList_some, Option.toList_none, List.cons_append, List.nil_append]
  rw [eX10_contract_12]
  simp only [eX10_contract_13, eX10_contract_14, eX10_contract_17, eX10_contract_18, eX10_contract_21, eX10_contract_22, eX10_contract_23, eX10_contract_24, eX10_contract_27, fx0, fx1, fx2, fx3, fx4, nl_int, nl_ref, nl_none, nl_ti, rz_nil, rz_int, rz_ref, rz_long, cf1, cf2, Option.toList_some, Option.toList_none, List.cons_append, List.nil_append, i4, l4, a4, if_false, true_and]
  rw [eX10_contract_12]
  simp only [eX10_contract_13, eX10_contract_14, eX10_contract_17, eX10_contract_18, eX10_contract_21, eX10_contract_22, eX10_contract_23, eX10_contract_24, eX10_contract_27, fx0, fx1, fx2, fx3, fx4, nl_int, nl_ref, nl_none, nl_ti, rz_nil, rz_int, rz_ref, rz_long, cf1, cf2, Option.toList_some, Option.toList_none, List.cons_append, List.nil_append, i4, l4, a4, if_false, true_and]
  rw [eX10_contract_12]
  simp only [eX10_contract_13, eX10_contract_14, eX10_contract_17, eX10_contract_18, eX10_contract_21, eX10_contract_22, eX10_contract_23, eX10_contract_24, eX10_contract_27, fx0, fx1, fx2, fx3, fx4, nl_int, nl_ref, nl_none, nl_ti, rz_nil, rz_int, rz_ref, rz_long, cf1, cf2, Option.toList_some, Option.toList_none, List.cons_append, List.nil_append, i4, l4, a4, if_false, true_and]
  rw [eX10_contract_12]
  simp only [eX10_contract_13, eX10_contract_14, eX10_contract_17, eX10_contract_18, eX10_contract_21, eX10_contract_22, eX10_contract_23, eX10_contract_24, eX10_contract_27, fx0, fx1, fx2, fx3, fx4, nl_int, nl_ref, nl_none, nl_ti, rz_nil, rz_int, rz_ref, rz_long, cf1, cf2, Option.toList_some, Option.toList_none, List.cons_append, List.nil_append, i4, l4, a4, if_false, true_and]
  rw [eX10_contract_12]
  simp only [eX10_contract_13, eX10_contract_14, eX10_contract_30, eX10_contract_31, eX10_contract_32, eX10_contract_35, eX10_contract_36, eX10_contract_37, eX10_contract_40, eX10_contract_41, fx0, fx1, fx2, fx3, fx4, nl_int, nl_ref, nl_none, nl_ti, rz_nil, rz_int, rz_ref, rz_long, cf1, cf2, Option.toList_some, Option.toList_none, List.cons_append, List.nil_append, l4, if_true]
  generalize hρ : su (su (su (su (su (su (su (su σ 109 14 (-1)) 109 15 0) 116 0 0) 116 1 0) 116 2 0) 116 3 0) 109 19 0) 109 24 0 = ρ
  have b0 : ∀ a, a ≠ 109 → a ≠ 116 → ρ a = σ a := fun a ha hb => by rw [← hρ, su_ne ha, su_ne ha, su_ne hb, su_ne hb, su_ne hb, su_ne hb, su_ne ha, su_ne ha]
  have b9 : ∀ k, k ≠ 14 → k ≠ 15 → k ≠ 19 → k ≠ 24 → ρ 109 k = σ 109 k := fun k k1 k2 k3 k4 => by
    rw [← hρ]
    simp only [su_at, su_ne, sr_eq, sr_ne, ne_eq, Nat.reduceEqDiff, not_false_eq_true, not_true_eq_false, if_true, if_false, k1, k2, k3, k4]
  have b14 : ρ 109 14 = -1 := by rw [← hρ]; simp only [su_at, su_ne, sr_eq, sr_ne, ne_eq, Nat.reduceEqDiff, not_false_eq_true, not_true_eq_false, if_true, if_false]
  have b15 : ρ 109 15 = nI 0 := by rw [← hρ]; simp only [su_at, su_ne, sr_eq, sr_ne, ne_eq, Nat.reduceEqDiff, not_false_eq_true, not_true_eq_false, if_true, if_false]; rfl
  have bM : MD ρ (fun _ _ => 0, 0, 0, 0) := by
    refine ⟨fun k hk => ?_, ⟨?_, ?_⟩, fun p hp => absurd hp (Nat.not_lt_zero p), fun q hq => absurd hq (Nat.not_lt_zero q)⟩
    · rcases (show k = 0 ∨ k = 1 ∨ k = 2 ∨ k = 3 by omega) with rfl | rfl | rfl | rfl <;> (rw [← hρ]; simp only [su_at, su_ne, sr_eq, sr_ne, ne_eq, Nat.reduceEqDiff, not_false_eq_true, not_true_eq_false, if_true, if_false])
    · rw [← hρ]; simp only [su_at, su_ne, sr_eq, sr_ne, ne_eq, Nat.reduceEqDiff, not_false_eq_true, not_true_eq_false, if_true, if_false]; rfl
    · rw [← hρ]; simp only [su_at, su_ne, sr_eq, sr_ne, ne_eq, Nat.reduceEqDiff, not_false_eq_true, not_true_eq_false, if_true, if_false]; rfl
  clear hρ
  have b115 : ρ 115 = σ 115 := b0 115 (by decide) (by decide)
  obtain ⟨s1, s2⟩ := sk_le (tx := σ 115) (Nat.zero_le n)
  refine m_loopT (d := d + 24) hn n 0 (fun _ _ => 0, 0, 0, 0) (sk (σ 115) n 0, 0, -1) ρ (Or.inl (by show n ≤ sk (σ 115) n 0 + n; omega)) ?_ b14 (by rw [b115]; exact hb) (fun _ => ⟨⟨b15, Nat.zero_le n, by rw [b115]⟩, bM, DOK.z⟩) ?_
  · rw [b9 13 (by decide) (by decide) (by decide) (by decide)]; exact h1
  rw [b115]
  have hK : (txR (σ 115) n).2.2.1 = 0 → DOK (txR (σ 115) n).1 := fun c => rdT_ok _ _ _ DOK.z c
  have hc : okc (txR (σ 115) n).2.2.1 := okc_rdT _ _ _ (Or.inl rfl)
  have fold : rdT (σ 115) n n (fun _ _ => 0, 0, 0, 0) (sk (σ 115) n 0, 0, -1) = txR (σ 115) n := rfl
  rw [fold]
  generalize txR (σ 115) n = R at hF hO hK hc ⊢
  obtain ⟨D, p, c, wh⟩ := R
  dsimp only at hF hO hK hc ⊢
  intro τ t14 tF tM
  rcases hc with ec | ec
  · simp only [eX10_contract_61, eX10_contract_62, eX10_contract_63, eX10_contract_66, eX10_contract_67, eX10_contract_75, eX10_contract_76, fx0, fx1, fx2, fx3, fx4, nl_int, nl_ref, nl_none, nl_ti, rz_nil, rz_int, rz_ref, rz_long, cf1, cf2, Option.toList_some, Option.toList_none, List.cons_append, List.nil_append, ec, show (0 : Int32) ≤ 0 by decide, if_true]
    obtain ⟨k1, ⟨k2, k3⟩, k4, k5⟩ := tM ec
    obtain ⟨⟨-, hW, hS⟩, -⟩ := hK ec
    obtain ⟨δ, h, w, s⟩ := D
    dsimp only at k1 k2 k3 k4 k5 hW hS hO ⊢
    generalize hκ : su τ 109 13 0 = κ
    have c0 : ∀ a, a ≠ 109 → κ a = τ a := fun a ha => by rw [← hκ, su_ne ha]
    have c9 : ∀ k, k ≠ 13 → κ 109 k = τ 109 k := fun k hk => by rw [← hκ, su_at, if_neg hk]
    have c13 : κ 109 13 = 0 := by rw [← hκ, su_at, if_pos rfl]
    clear hκ
    refine aC.of (m_takeRead (d := d + 28) (w := w) (s := s) (by rw [c9 19 (by decide)]; exact k2) hW (by rw [c9 24 (by decide)]; exact k3) hS) ?_
    have z : vp_nar .boolean 0 = 0 := by decide +kernel
    have i2 : vp_in 0 2 ∧ vp_in 1 2 := ⟨vin (n := 0) (by decide) (by decide), vin (n := 1) (by decide) (by decide)⟩
    simp only [eX10_contract_79, eX10_contract_80, eX10_contract_81, eX10_contract_84, eX10_contract_85, eX10_contract_86, eX10_contract_89, eX10_contract_90, eX10_contract_91, eX10_contract_94, eX10_contract_95, eX10_contract_98, eX10_contract_99, eX10_contract_100, eX10_contract_101, eX10_contract_102, eX10_contract_105, eX10_contract_106, eX10_contract_107, eX10_contract_108, eX10_contract_109, eX10_contract_112, fx0, fx1, fx2, fx3, fx4, nl_int, nl_ref, nl_none, nl_ti, rz_nil, rz_int, rz_ref, rz_long, cf1, cf2, Option.toList_some, Option.toList_none, List.cons_append, List.nil_append, i2, z, true_and]
    generalize hφ : trS κ = φ
    have f9 : ∀ k, k ≠ 0 → k ≠ 1 → k ≠ 2 → k ≠ 3 → k ≠ 4 → k ≠ 8 → φ 109 k = κ 109 k := fun k a0 a1 a2 a3 a4 a8 => by
      rw [← hφ]
      unfold trS
      simp only [su_at, su_ne, sr_eq, sr_ne, ne_eq, Nat.reduceEqDiff, not_false_eq_true, not_true_eq_false, if_true, if_false, a0, a1, a2, a3, a4, a8]
    have f0 : ∀ a, a ≠ 109 → φ a = κ a := fun a ha => by rw [← hφ]; unfold trS; rw [su_ne ha, su_ne ha, su_ne ha, su_ne ha, su_ne ha, su_ne ha]
    have g9 : φ 109 0 = κ 116 0 ∧ φ 109 1 = κ 116 1 ∧ φ 109 2 = κ 116 2 ∧ φ 109 3 = κ 116 3 ∧ φ 109 4 = κ 109 19 ∧ φ 109 8 = κ 109 24 := by
      rw [← hφ]
      unfold trS
      simp only [su_at, su_ne, sr_eq, sr_ne, ne_eq, Nat.reduceEqDiff, not_false_eq_true, not_true_eq_false, if_true, if_false, and_self]
    clear hφ
    generalize hψ : su (su (su (su (su (sr (trA φ w) 113 (pre s (κ 121) (κ 113))) 109 32 0) 109 35 0) 109 26 0) 131 0 0) 131 1 0 = ψ
    have e9 : ∀ k, k ≠ 32 → k ≠ 35 → k ≠ 26 → ψ 109 k = φ 109 k := fun k a0 a1 a2 => by
      rw [← hψ]
      unfold trA
      simp only [su_at, su_ne, sr_eq, sr_ne, ne_eq, Nat.reduceEqDiff, not_false_eq_true, not_true_eq_false, if_true, if_false, a0, a1, a2]
    have e0 : ∀ a, a < 109 → ψ a = φ a := fun a ha => by
      rw [← hψ]
      unfold trA
      rw [su_ne (by omega), su_ne (by omega), su_ne (by omega), su_ne (by omega), su_ne (by omega), sr_ne (by omega), sr_ne (by omega), sr_ne (by omega), sr_ne (by omega), sr_ne (by omega)]
    have x9 : ψ 109 26 = 0 ∧ (ψ 131 0 = 0 ∧ ψ 131 1 = 0) ∧ ψ 109 32 = 0 ∧ ψ 109 35 = 0 := by
      rw [← hψ]
      simp only [su_at, su_ne, sr_eq, sr_ne, ne_eq, Nat.reduceEqDiff, not_false_eq_true, not_true_eq_false, if_true, if_false, and_self]
    have y114 : ψ 114 = pre w (φ 117) (pre 19 (fun _ => 0) (φ 114)) := by rw [← hψ]; unfold trA; simp only [su_at, su_ne, sr_eq, sr_ne, ne_eq, Nat.reduceEqDiff, not_false_eq_true, not_true_eq_false, if_true, if_false]
    have y110 : ψ 110 = pre w (φ 118) (φ 110) := by rw [← hψ]; unfold trA; simp only [su_at, su_ne, sr_eq, sr_ne, ne_eq, Nat.reduceEqDiff, not_false_eq_true, not_true_eq_false, if_true, if_false]
    have y111 : ψ 111 = pre w (φ 119) (φ 111) := by rw [← hψ]; unfold trA; simp only [su_at, su_ne, sr_eq, sr_ne, ne_eq, Nat.reduceEqDiff, not_false_eq_true, not_true_eq_false, if_true, if_false]
    have y112 : ψ 112 = pre w (φ 120) (φ 112) := by rw [← hψ]; unfold trA; simp only [su_at, su_ne, sr_eq, sr_ne, ne_eq, Nat.reduceEqDiff, not_false_eq_true, not_true_eq_false, if_true, if_false]
    have y113 : ψ 113 = pre s (κ 121) (κ 113) := by rw [← hψ]; unfold trA; simp only [su_at, su_ne, sr_eq, sr_ne, ne_eq, Nat.reduceEqDiff, not_false_eq_true, not_true_eq_false, if_true, if_false]
    clear hψ
    have r4 : ψ 109 4 = nI w := by rw [e9 4 (by decide) (by decide) (by decide), g9.2.2.2.2.1, c9 19 (by decide)]; exact k2
    rw [r4]
    refine hO ec ψ ⟨⟨?_, ?_, ?_, fun a ha => ?_⟩, ⟨fun k hk => ?_, r4, ?_⟩, fun p hp => ?_, fun q hq => ?_, fun k q1 q2 => ?_, x9⟩
    · rw [e9 13 (by decide) (by decide) (by decide), f9 13 (by decide) (by decide) (by decide) (by decide) (by decide) (by decide)]; exact c13
    · rw [e9 14 (by decide) (by decide) (by decide), f9 14 (by decide) (by decide) (by decide) (by decide) (by decide) (by decide), c9 14 (by decide)]; exact t14
    · rw [e9 11 (by decide) (by decide) (by decide), f9 11 (by decide) (by decide) (by decide) (by decide) (by decide) (by decide), c9 11 (by decide), tF.2 11 (by decide) (by decide) (by decide) (by decide) (by decide) (by decide)]; exact b9 11 (by decide) (by decide) (by decide) (by decide)
    · rw [e0 a ha, f0 a (by omega), c0 a (by omega), tF.1 a (by omega) (by omega)]; exact b0 a (by omega) (by omega)
    · dsimp only
      rcases (show k = 0 ∨ k = 1 ∨ k = 2 ∨ k = 3 by omega) with rfl | rfl | rfl | rfl
      · rw [e9 0 (by decide) (by decide) (by decide), g9.1, c0 116 (by decide)]; exact k1 0 (by decide)
      · rw [e9 1 (by decide) (by decide) (by decide), g9.2.1, c0 116 (by decide)]; exact k1 1 (by decide)
      · rw [e9 2 (by decide) (by decide) (by decide), g9.2.2.1, c0 116 (by decide)]; exact k1 2 (by decide)
      · rw [e9 3 (by decide) (by decide) (by decide), g9.2.2.2.1, c0 116 (by decide)]; exact k1 3 (by decide)
    · rw [e9 8 (by decide) (by decide) (by decide), g9.2.2.2.2.2, c9 24 (by decide)]; exact k3
    · dsimp only at hp ⊢
      rw [y114, y110, y111, y112]
      unfold pre
      rw [if_pos hp, if_pos hp, if_pos hp, if_pos hp, f0 117 (by decide), f0 118 (by decide), f0 119 (by decide), f0 120 (by decide), c0 117 (by decide), c0 118 (by decide), c0 119 (by decide), c0 120 (by decide)]
      exact k4 p hp
    · dsimp only at hq ⊢
      rw [y113]
      unfold pre
      rw [if_pos hq, c0 121 (by decide)]
      exact k5 q hq
    · rw [y114]
      unfold pre
      rw [if_neg (by omega), if_pos q2]
  · have ec0 : ¬ c = 0 := fun e => ec (by rw [e]; decide)
    simp only [eX10_contract_61, eX10_contract_62, eX10_contract_63, eX10_contract_66, eX10_contract_67, eX10_contract_70, eX10_contract_72, eX10_contract_73, eX10_contract_74, fx0, fx1, fx2, fx3, fx4, nl_int, nl_ref, nl_none, nl_ti, rz_nil, rz_int, rz_ref, rz_long, cf1, cf2, Option.toList_some, Option.toList_none, List.cons_append, List.nil_append, ec, if_false]
    refine hF ec0 _ ?_ ?_ (fun a ha hb => ?_) (fun k k13 k14 k15 k16 k17 k19 k24 => ?_)
    · rw [su_at, if_pos rfl]
    · rw [su_at, if_neg (by decide)]; exact t14
    · rw [su_ne ha, tF.1 a ha hb]; exact b0 a ha (by omega)
    · rw [su_at, if_neg k13, tF.2 k k14 k15 k16 k17 k19 k24]; exact b9 k k14 k15 k19 k24
theorem op_contract (hI : Inv σ) : Pair l (d + 30) 62 109 [] σ := by
  obtain ⟨h, w, s, hK, ⟨hS, hR⟩, hH, hIm, hD, hE, hB, ⟨hT0, n, hn, t1, t2, t3⟩⟩ := hI
  have hw6 : w ≤ 6 := hK.1.2.2
  refine c_contract hn t1 (fun ec τ q1 q2 q0 => ?_) (fun ec τ hc => ?_)
  · have y115 : τ 115 = σ 115 := q0 115 (by omega)
    have same : txR (σ 8) n = txR (σ 115) n := by
      unfold txR
      rw [sk_congr (fun j hj => (t3 j hj).1), rdT_congr (fun j hj => (t3 j hj).1)]
    rw [same] at ec q2 ⊢
    refine m_contract (n := n) hn (by rw [q0 109 (by omega)]; exact t2) (fun j hj => by rw [y115, ← (t3 j hj).1]; exact (t3 j hj).2) (fun _ ρ r13 r14 r0 r9 => ?_) (fun c => absurd (by rw [y115] at c; exact c) ec)
    rw [y115] at r14 ⊢
    refine ⟨⟨_, rfl, rfl⟩, ?_⟩
    have o : ∀ a, (8 ≤ a ∧ a ≠ 109 ∧ (a < 116 ∨ 121 < a)) → ρ a = σ a := fun a ha => by rw [r0 a ha.2.1 ha.2.2]; exact q0 a (Or.inr ha.1)
    have o9 : ∀ k, k ≠ 13 → k ≠ 14 → k ≠ 15 → k ≠ 16 → k ≠ 17 → k ≠ 19 → k ≠ 24 → ρ 109 k = σ 109 k := fun k a1 a2 a3 a4 a5 a6 a7 => by rw [r9 k a1 a2 a3 a4 a5 a6 a7, q0 109 (by omega)]
    refine ⟨h, w, s, hK.congr (fun c c1 c2 => o c (by omega)) (fun c c1 c2 => o c (by omega)) (fun k hk => o9 k (by omega) (by omega) (by omega) (by omega) (by omega) (by omega) (by omega)), ⟨?_, ?_⟩, hH.congr (fun c c1 c2 => o c (by omega)) hw6 (o9 26 (by decide) (by decide) (by decide) (by decide) (by decide) (by decide) (by decide)) (o 122 (by omega)), hIm.congr (fun c c1 c2 => o c (by omega)) (o 130 (by omega)) (o 131 (by omega)), hD.congr (o 90 (by omega)) (o9 11 (by decide) (by decide) (by decide) (by decide) (by decide) (by decide) (by decide)), hE.congr (fun c c1 c2 => o c (by omega)) (o9 32 (by decide) (by decide) (by decide) (by decide) (by decide) (by decide) (by decide)) (o 126 (by omega)) (o 127 (by omega)), hB.congr (fun c c1 c2 => o c (by omega)) (o9 35 (by decide) (by decide) (by decide) (by decide) (by decide) (by decide) (by decide)) (o 128 (by omega)) (o 129 (by omega)), ⟨?_, 0, by decide, ?_, r13, fun j hj => absurd hj (Nat.not_lt_zero j)⟩⟩
    · rw [o 114 (by omega)]; exact hS.same (o 15 (by omega)) (o 16 (by omega)) (o 17 (by omega))
    · rw [o 114 (by omega)]; exact hR
    · rw [r0 1 (by decide) (by decide), r14]; exact q2
    · rw [r0 1 (by decide) (by decide)]; exact q1
  · obtain ⟨⟨c1, c2, c3⟩, ⟨c4, c5, c6⟩, c7, c8, ⟨c9, c10⟩, ⟨⟨c11, c12⟩, ⟨c13, c14⟩, c15, c16⟩⟩ := hc
    have y115 : τ 115 = σ 115 := c3 115 (by omega)
    have same : txR (σ 8) n = txR (σ 115) n := by
      unfold txR
      rw [sk_congr (fun j hj => (t3 j hj).1), rdT_congr (fun j hj => (t3 j hj).1)]
    rw [same] at ec c2 c4 c5 c6 c7 c8 ⊢
    refine m_contract (n := n) hn (by rw [c3 109 (by omega)]; exact t2) (fun j hj => by rw [y115, ← (t3 j hj).1]; exact (t3 j hj).2) (fun c => absurd ec (by rw [y115] at c; exact c)) (fun _ ρ hm => ?_)
    rw [y115] at hm ⊢
    refine ⟨⟨_, rfl, rfl⟩, ?_⟩
    have hKo : DOK (txR (σ 115) n).1 := rdT_ok _ _ _ DOK.z ec
    generalize txR (σ 115) n = R at ec c2 c4 c5 c6 c7 c8 hm hKo
    obtain ⟨⟨δ, h', w', s'⟩, p, c, wh⟩ := R
    obtain ⟨⟨m1, m2, m3, m4⟩, ⟨m5, m6, m7⟩, m8, m9, m10, ⟨m11, ⟨m12, m13⟩, m14, m15⟩⟩ := hm
    obtain ⟨⟨d1, d2, d3⟩, d4, ⟨d5, d6⟩, d7, d8⟩ := hKo
    dsimp only at ec c2 c4 c5 c6 c7 c8 m2 m5 m6 m7 m8 m9 d1 d2 d3 d4 d5 d6 d7 d8
    refine ⟨h', w', s', ⟨⟨by rw [m4 9 (by decide)]; exact c5, m6, d2⟩, ⟨by rw [m4 9 (by decide)]; exact c6, m7, d3⟩, ⟨d1, by rw [m4 9 (by decide), c4 0 (by decide)]; exact d5, by rw [m5 0 (by decide)]; exact d5, d4⟩, ⟨?_, ?_, ?_, ?_⟩, fun p hp => ?_, fun q hq => ?_⟩, ⟨⟨fun p hp => ?_, fun p hp => ?_, fun k hk => ?_⟩, ⟨fun p hp => ?_, ⟨0, by decide, m10 12 (by decide) (by decide), fun p hp => ⟨0, by decide, m10 _ (by omega) (by omega)⟩⟩, fun p hp1 hp2 => m10 _ (by omega) (by omega)⟩⟩, ⟨0, m11, ⟨by decide, by rw [m4 18 (by decide)]; exact c11, 0, by decide, by rw [m4 18 (by decide)]; exact c12, fun j hj => absurd hj (Nat.not_lt_zero j)⟩, fun j hj => absurd hj (Nat.not_lt_zero j)⟩, fun i hi => ?_, ?_, ⟨0, by decide, by rw [m4 103 (by decide)]; exact c15, m14, fun j hj => absurd hj (Nat.not_lt_zero j)⟩, ⟨0, by decide, by rw [m4 106 (by decide)]; exact c16, m15, fun j hj => absurd hj (Nat.not_lt_zero j)⟩, ⟨by rw [m4 1 (by decide), m2]; exact c2, 0, by decide, by rw [m4 1 (by decide)]; exact c1, m1, fun j hj => absurd hj (Nat.not_lt_zero j)⟩⟩
    · rw [m4 9 (by decide), c4 1 (by decide), m5 1 (by decide)]
    · rw [m4 9 (by decide), c4 2 (by decide), m5 2 (by decide)]
    · rw [m4 9 (by decide), c4 3 (by decide), m5 3 (by decide)]
    · rw [m4 9 (by decide), c4 3 (by decide)]; exact d6
    · obtain ⟨g1, g2, g3, g4⟩ := c7 p hp
      obtain ⟨f1, f2, f3, f4⟩ := m8 p hp
      obtain ⟨e1, e2, e3, e4⟩ := d7 p hp
      rw [m4 11 (by decide), m4 12 (by decide), m4 13 (by decide), g2, g3, g4, f2, f3, f4]
      exact ⟨rfl, rfl, rfl, e2, e3, e4⟩
    · rw [m4 14 (by decide), c8 q hq, m9 q hq]
      exact ⟨rfl, d8 q hq⟩
    · rw [m4 16 (by decide), (c7 p hp).1, (m8 p hp).1]
    · rw [m4 17 (by decide), c10 p hp, m10 (6 + p) (by omega) (by omega)]
    · rw [m4 15 (by decide), c9 k hk, m10 (12 + k) (by omega) (by omega)]
    · obtain ⟨e1, e2, e3, e4⟩ := d7 p hp
      rw [(m8 p hp).1]
      obtain ⟨j, j1, j2⟩ := e1
      exact ⟨j, by omega, j2⟩
    · rw [m4 83 (by decide)]
      rcases (show i = 0 ∨ i = 1 by omega) with rfl | rfl
      · rw [c13, m12]; exact ⟨rfl, Or.inl rfl⟩
      · rw [c14, m13]; exact ⟨rfl, Or.inl rfl⟩
    · unfold SeedR
      rw [m4 90 (by decide), c3 90 (by omega), m3, c3 109 (by omega)]
      exact hD
end CM
