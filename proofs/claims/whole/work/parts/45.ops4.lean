/-! judge, feed -/
def jf (bad : Nat → Prop) [∀ i, Decidable (bad i)] : Nat → Nat → Int32
  | 0, _ => -1
  | n + 1, i => if bad i then nI i else jf bad n (i + 1)
section O4
variable {l : Launch} {d : Nat} {σ : aW}
theorem fw_loop {w n : Nat} (hw6 : w ≤ 6) (hn : σ 106 0 = nI n) (hn15 : n ≤ 15) (hq : ∀ j, j < n → ∃ q, q < w ∧ σ 107 j = nI q) : ∀ (k i : Nat) (t : Option Int32), i + k = n → aE l d none 1 cX1_firstWrong (some .int) (fun r' σ'' => r' = some (.int (jf (fun j => ¬ σ 16 (σ 107 j).toNatClampNeg = σ 108 j) k i)) ∧ σ'' = σ) 2 [some (.ref 106), some (.ref 15), some (.int (nI i)), ti t] [] σ := by
  intro k
  induction k with
  | zero =>
    intro i t hi
    have hi : i = n := by omega
    subst hi
    have h1 : nI i ≤ nI i := (nile (by omega) (by omega)).mpr (Nat.le_refl i)
    simp only [eX1_firstWrong_2, eX1_firstWrong_3, eX1_firstWrong_4, eX1_firstWrong_7, eX1_firstWrong_59, eX1_firstWrong_60, fx0, fx1, fx2, fx3, fx4, nl_int, nl_ref, nl_none, nl_ti, rz_nil, rz_int, rz_ref, rz_long, cf1, cf2, Option.toList_some, Option.toList_none, List.cons_append, List.nil_append, hn, h1, if_true]
    exact ⟨rfl, trivial⟩
  | succ k ih =>
    intro i t hi
    have h1 : ¬ nI n ≤ nI i := by rw [nile (by omega) (by omega)]; omega
    have h2 : ¬ (15 : Int32) ≤ nI i := by rw [show (15 : Int32) = nI 15 from rfl, nile (by omega) (by omega)]; omega
    have hin : vp_in (nI i) 15 := vin (by omega) (by omega)
    have hcl : (nI i).toNatClampNeg = i := nic (by omega)
    have hinc : nI i + 1 = nI (i + 1) := nI_1 i
    obtain ⟨q, hq1, hq2⟩ := hq i (by omega)
    have g0 : ¬ nI q < 0 := nI_pos (by omega)
    have g6 : nI q < 6 := by rw [show (6 : Int32) = nI 6 from rfl, nilt (by omega) (by omega)]; omega
    have hinq : vp_in (nI q) 6 := vin (by omega) (by omega)
    have hclq : (nI q).toNatClampNeg = q := nic (by omega)
    have hrec := ih (i + 1) (some (nI q)) (by omega)
    rw [eX1_firstWrong_2]
    simp only [eX1_firstWrong_3, eX1_firstWrong_4, eX1_firstWrong_7, eX1_firstWrong_10, eX1_firstWrong_11, eX1_firstWrong_13, eX1_firstWrong_16, eX1_firstWrong_17, eX1_firstWrong_20, eX1_firstWrong_21, eX1_firstWrong_22, eX1_firstWrong_23, eX1_firstWrong_24, eX1_firstWrong_27, eX1_firstWrong_28, eX1_firstWrong_30, eX1_firstWrong_33, eX1_firstWrong_36, eX1_firstWrong_37, eX1_firstWrong_40, eX1_firstWrong_41, eX1_firstWrong_42, eX1_firstWrong_43, eX1_firstWrong_46, eX1_firstWrong_47, eX1_firstWrong_48, eX1_firstWrong_51, eX1_firstWrong_52, eX1_firstWrong_53, eX1_firstWrong_56, fx0, fx1, fx2, fx3, fx4, nl_int, nl_ref, nl_none, nl_ti, rz_nil, rz_int, rz_ref, rz_long, cf1, cf2, Option.toList_some, Option.toList_none, List.cons_append, List.nil_append, hn, h1, h2, if_false, if_true, hin, hcl, hinc, hq2, g0, g6, hinq, hclq, true_and]
    unfold jf
    rw [hq2, hclq]
    by_cases hb : σ 16 q = σ 108 i
    · rw [if_pos hb]
      simp only [hb, not_true_eq_false, if_false]
      exact hrec
    · rw [if_neg hb]
      simp only [hb, not_false_eq_true, if_true]
      simp
theorem jm_loop {w n : Nat} (hw6 : w ≤ 6) (hn : σ 109 35 = nI n) (hn15 : n ≤ 15) (hq : ∀ j, j < n → ∃ q, q < w ∧ σ 128 j = nI q) : ∀ (k i : Nat), i + k = n → aE l d none 10 cX10_judge (some .int) (fun r' σ'' => r' = some (.int (jf (fun j => ¬ σ 114 (σ 128 j).toNatClampNeg = σ 129 j) k i)) ∧ σ'' = σ) 2 [some (.ref 109), some (.int (nI i))] [] σ := by
  intro k
  induction k with
  | zero =>
    intro i hi
    have hi : i = n := by omega
    subst hi
    have h1 : nI i ≤ nI i := (nile (by omega) (by omega)).mpr (Nat.le_refl i)
    simp only [eX10_judge_2, eX10_judge_3, eX10_judge_4, eX10_judge_7, eX10_judge_38, eX10_judge_39, fx0, fx1, fx2, fx3, fx4, nl_int, nl_ref, nl_none, nl_ti, rz_nil, rz_int, rz_ref, rz_long, cf1, cf2, Option.toList_some, Option.toList_none, List.cons_append, List.nil_append, hn, h1, if_true]
    exact ⟨rfl, trivial⟩
  | succ k ih =>
    intro i hi
    have h1 : ¬ nI n ≤ nI i := by rw [nile (by omega) (by omega)]; omega
    have hin : vp_in (nI i) 15 := vin (by omega) (by omega)
    have hcl : (nI i).toNatClampNeg = i := nic (by omega)
    have hinc : nI i + 1 = nI (i + 1) := nI_1 i
    obtain ⟨q, hq1, hq2⟩ := hq i (by omega)
    have hinq : vp_in (nI q) 19 := vin (by omega) (by omega)
    have hclq : (nI q).toNatClampNeg = q := nic (by omega)
    have hrec := ih (i + 1) (by omega)
    rw [eX10_judge_2]
    simp only [eX10_judge_3, eX10_judge_4, eX10_judge_7, eX10_judge_10, eX10_judge_11, eX10_judge_14, eX10_judge_15, eX10_judge_18, eX10_judge_19, eX10_judge_20, eX10_judge_21, eX10_judge_22, eX10_judge_25, eX10_judge_26, eX10_judge_27, eX10_judge_30, eX10_judge_31, eX10_judge_32, eX10_judge_35, fx0, fx1, fx2, fx3, fx4, nl_int, nl_ref, nl_none, nl_ti, rz_nil, rz_int, rz_ref, rz_long, cf1, cf2, Option.toList_some, Option.toList_none, List.cons_append, List.nil_append, hn, h1, if_false, if_true, hin, hcl, hinc, hq2, hinq, hclq, true_and]
    unfold jf
    rw [hq2, hclq]
    by_cases hb : σ 114 q = σ 129 i
    · rw [if_pos hb]
      simp only [hb, not_true_eq_false, if_false]
      exact hrec
    · rw [if_neg hb]
      simp only [hb, not_false_eq_true, if_true]
      simp
theorem jf_congr {b1 b2 : Nat → Prop} [∀ i, Decidable (b1 i)] [∀ i, Decidable (b2 i)] : ∀ k i, (∀ j, i ≤ j → j < i + k → (b1 j ↔ b2 j)) → jf b1 k i = jf b2 k i := by
  intro k
  induction k with
  | zero => exact fun _ _ => rfl
  | succ k ih =>
    intro i h
    unfold jf
    have := h i (by omega) (by omega)
    by_cases hb : b1 i
    · rw [if_pos hb, if_pos (this.mp hb)]
    · rw [if_neg hb, if_neg (fun q => hb (this.mpr q))]
      exact ih (i + 1) (fun j h1 h2 => h j (by omega) (by omega))
theorem op_judge (hI : Inv σ) : Pair l (d + 30) 85 149 [] σ := by
  have hI0 := hI
  obtain ⟨h, w, s, hK, ⟨hS, hR⟩, hH, hIm, hD, hE, hB, hT⟩ := hI
  have hw6 : w ≤ 6 := hK.1.2.2
  obtain ⟨n, hn, e1, e2, e3⟩ := hB
  refine aC_of rfl (Nat.le_of_ble_eq_true rfl) ?_
  show aE l (d + 29) none 9 cX9_judge (some .int) _ 0 [some (.ref 0)] [] σ
  simp only [eX9_judge_0, eX9_judge_1, eX9_judge_4, eX9_judge_5, eX9_judge_8, fx0, fx1, fx2, fx3, fx4, nl_int, nl_ref, nl_none, nl_ti, rz_nil, rz_int, rz_ref, rz_long, cf1, cf2, Option.toList_some, Option.toList_none, List.cons_append, List.nil_append]
  have hc : Sem l (d + 29) 6 [.ref 106, .ref 15] σ (some (.int (jf (fun j => ¬ σ 16 (σ 107 j).toNatClampNeg = σ 108 j) n 0))) σ := by
    refine Sem_of rfl (Nat.le_of_ble_eq_true rfl) ?_
    show aE l (d + 28) none 1 cX1_firstWrong (some .int) _ 0 [some (.ref 106), some (.ref 15), none, none] [] σ
    simp only [eX1_firstWrong_0, eX1_firstWrong_1, fx0, fx1, fx2, fx3, fx4, nl_int, nl_ref, nl_none, nl_ti, rz_nil, rz_int, rz_ref, rz_long, cf1, cf2, Option.toList_some, Option.toList_none, List.cons_append, List.nil_append]
    exact fw_loop hw6 e1 hn (fun j hj => (e3 j hj).2.1) n 0 none (by omega)
  refine aC.of hc ?_
  simp only [eX9_judge_11, fx0, fx1, fx2, fx3, fx4, nl_int, nl_ref, nl_none, nl_ti, rz_nil, rz_int, rz_ref, rz_long, cf1, cf2, Option.toList_some, Option.toList_none, List.cons_append, List.nil_append]
  have hm : Sem l (d + 30) 149 [.ref 109] σ (some (.int (jf (fun j => ¬ σ 114 (σ 128 j).toNatClampNeg = σ 129 j) n 0))) σ := by
    refine Sem_of rfl (Nat.le_of_ble_eq_true rfl) ?_
    show aE l (d + 29) none 10 cX10_judge (some .int) _ 0 [some (.ref 109), none] [] σ
    simp only [eX10_judge_0, eX10_judge_1, fx0, fx1, fx2, fx3, fx4, nl_int, nl_ref, nl_none, nl_ti, rz_nil, rz_int, rz_ref, rz_long, cf1, cf2, Option.toList_some, Option.toList_none, List.cons_append, List.nil_append]
    exact jm_loop hw6 e2 hn (fun j hj => by rw [← (e3 j hj).1]; exact (e3 j hj).2.1) n 0 (by omega)
  refine aC.of hm ⟨⟨_, rfl, ?_⟩, hI0⟩
  rw [jf_congr (b2 := fun j => ¬ σ 16 (σ 107 j).toNatClampNeg = σ 108 j) n 0 (fun j _ h2 => ?_)]
  obtain ⟨f1, ⟨q, hq, f2⟩, f3⟩ := e3 j (by omega)
  rw [← f1, ← f3, f2, nic (by omega), show σ 16 q = σ 114 q from hS.1 q hq]
theorem op_feed (hI : Inv σ) (x : Int32) : Pair l (d + 30) 61 99 [.int x] σ := by
  have hI0 := hI
  obtain ⟨h, w, s, hK, ⟨hS, hR⟩, hH, hIm, hD, hE, hB, hT⟩ := hI
  obtain ⟨hT0, n, hn, t1, t2, t3⟩ := hT
  refine aC_of rfl (Nat.le_of_ble_eq_true rfl) ?_
  show aE l (d + 29) none 9 cX9_feed (some .int) _ 0 [some (.ref 0), some (.int x)] [] σ
  have h255 : (255 : Int64) = (nI 255).toInt64 := by decide
  have hm : ∀ (τ : aW) (P : Option Value → aW → Prop) (v : Int32), inB x.toInt64 0 (nI 255).toInt64 = v → aE l (d + 29) none 10 cX10_feed (some .int) P 9 [some (.ref 109), some (.int x)] [.int v] τ → aC l (d + 30) 99 [.ref 109, .int x] τ P := by
    intro τ P v hv hP
    refine aC_of rfl (Nat.le_of_ble_eq_true rfl) ?_
    show aE l (d + 29) none 10 cX10_feed (some .int) _ 0 [some (.ref 109), some (.int x)] [] τ
    simp only [eX10_feed_0, eX10_feed_1, eX10_feed_2, eX10_feed_3, eX10_feed_6, fx0, fx1, fx2, fx3, fx4, nl_int, nl_ref, nl_none, nl_ti, rz_nil, rz_int, rz_ref, rz_long, cf1, cf2, Option.toList_some, Option.toList_none, List.cons_append, List.nil_append]
    refine aC.of m_in ?_
    rw [h255, hv]
    exact hP
  rcases rgc x (N := 255) (by decide) with ⟨m, hm1, rfl⟩ | ⟨r1, r2⟩
  · obtain ⟨r1, r2, r3⟩ := rgc1 hm1 (by decide)
    have r2 : nI m ≤ 255 := r2
    simp only [eX9_feed_0, eX9_feed_1, eX9_feed_4, eX9_feed_5, eX9_feed_8, eX9_feed_11, eX9_feed_13, eX9_feed_14, eX9_feed_15, eX9_feed_18, eX9_feed_19, fx0, fx1, fx2, fx3, fx4, nl_int, nl_ref, nl_none, nl_ti, rz_nil, rz_int, rz_ref, rz_long, cf1, cf2, Option.toList_some, Option.toList_none, List.cons_append, List.nil_append, r1, r2, if_false, if_true]
    by_cases h8 : n < 220
    · have h0 : ¬ nI n < 0 := nI_pos (by omega)
      have hlt : nI n < 220 := by rw [show (220 : Int32) = nI 220 from rfl, nilt (by omega) (by omega)]; exact h8
      have hin : vp_in (nI n) 220 := vin h8 (by decide)
      have hcl : (nI n).toNatClampNeg = n := nic (by omega)
      have hne : ¬ nI n = 220 := by rw [show (220 : Int32) = nI 220 from rfl, nieq (by omega) (by omega)]; omega
      have ha : Sem l (d + 29) 23 [.ref 1, .int (nI m)] σ (some (.int 1)) (su (su σ 8 n (nI m)) 1 1 (nI (n + 1))) := by
        refine Sem_of rfl (Nat.le_of_ble_eq_true rfl) ?_
        show aE l (d + 28) none 5 cX5_append (some .boolean) _ 0 [some (.ref 1), some (.int (nI m))] [] σ
        simp only [eX5_append_0, eX5_append_1, eX5_append_4, eX5_append_7, eX5_append_8, eX5_append_11, eX5_append_14, eX5_append_17, eX5_append_18, eX5_append_19, eX5_append_20, eX5_append_23, eX5_append_24, eX5_append_27, eX5_append_28, eX5_append_29, eX5_append_30, eX5_append_31, eX5_append_34, eX5_append_35, eX5_append_36, eX5_append_39, eX5_append_40, fx0, fx1, fx2, fx3, fx4, nl_int, nl_ref, nl_none, nl_ti, rz_nil, rz_int, rz_ref, rz_long, cf1, cf2, Option.toList_some, Option.toList_none, List.cons_append, List.nil_append, su_at, su_ne, sr_eq, sr_ne, ne_eq, Nat.reduceEqDiff, not_false_eq_true, not_true_eq_false, if_true, if_false, t1, h0, hlt, hin, hcl, true_and, nI_1]
        simp
      refine aC.of ha ?_
      simp only [eX9_feed_22, eX9_feed_25, eX9_feed_27, eX9_feed_28, eX9_feed_29, eX9_feed_32, eX9_feed_35, fx0, fx1, fx2, fx3, fx4, nl_int, nl_ref, nl_none, nl_ti, rz_nil, rz_int, rz_ref, rz_long, cf1, cf2, Option.toList_some, Option.toList_none, List.cons_append, List.nil_append, su_at, su_ne, sr_eq, sr_ne, ne_eq, Nat.reduceEqDiff, not_false_eq_true, not_true_eq_false, if_true, if_false, show ¬ (1 : Int32) = 0 by decide]
      refine hm _ _ 1 r3 ?_
      simp only [eX10_feed_9, eX10_feed_12, eX10_feed_14, eX10_feed_15, eX10_feed_16, eX10_feed_19, eX10_feed_22, eX10_feed_25, eX10_feed_27, eX10_feed_28, eX10_feed_29, eX10_feed_32, eX10_feed_33, eX10_feed_36, eX10_feed_37, eX10_feed_38, eX10_feed_39, eX10_feed_40, eX10_feed_43, eX10_feed_44, eX10_feed_45, eX10_feed_48, eX10_feed_49, eX10_feed_52, fx0, fx1, fx2, fx3, fx4, nl_int, nl_ref, nl_none, nl_ti, rz_nil, rz_int, rz_ref, rz_long, cf1, cf2, Option.toList_some, Option.toList_none, List.cons_append, List.nil_append, su_at, su_ne, sr_eq, sr_ne, ne_eq, Nat.reduceEqDiff, not_false_eq_true, not_true_eq_false, if_true, if_false, show ¬ (1 : Int32) = 0 by decide, t2, hne, hin, hcl, nI_1, true_and]
      refine ⟨⟨_, rfl, rfl⟩, h, w, s, hK.congr (fun c h1 h2 => by simp only [su_ne (show c ≠ 1 by omega), sr_ne (show c ≠ 1 by omega), su_ne (show c ≠ 8 by omega), sr_ne (show c ≠ 8 by omega), su_ne (show c ≠ 109 by omega), sr_ne (show c ≠ 109 by omega), su_ne (show c ≠ 115 by omega), sr_ne (show c ≠ 115 by omega)]) (fun c h1 h2 => by simp only [su_ne (show c ≠ 1 by omega), sr_ne (show c ≠ 1 by omega), su_ne (show c ≠ 8 by omega), sr_ne (show c ≠ 8 by omega), su_ne (show c ≠ 109 by omega), sr_ne (show c ≠ 109 by omega), su_ne (show c ≠ 115 by omega), sr_ne (show c ≠ 115 by omega)]) (fun k hk => by simp only [su_at, su_ne, sr_eq, sr_ne, ne_eq, Nat.reduceEqDiff, not_false_eq_true, not_true_eq_false, if_true, if_false, show k ≠ 13 by omega]), ⟨?_, ?_⟩, hH.congr (fun c h1 h2 => by simp only [su_ne (show c ≠ 1 by omega), sr_ne (show c ≠ 1 by omega), su_ne (show c ≠ 8 by omega), sr_ne (show c ≠ 8 by omega), su_ne (show c ≠ 109 by omega), sr_ne (show c ≠ 109 by omega), su_ne (show c ≠ 115 by omega), sr_ne (show c ≠ 115 by omega)]) hK.1.2.2 (by simp only [su_at, su_ne, sr_eq, sr_ne, ne_eq, Nat.reduceEqDiff, not_false_eq_true, not_true_eq_false, if_true, if_false]) (by simp only [su_at, su_ne, sr_eq, sr_ne, ne_eq, Nat.reduceEqDiff, not_false_eq_true, not_true_eq_false, if_true, if_false]), hIm.congr (fun c h1 h2 => by simp only [su_ne (show c ≠ 1 by omega), sr_ne (show c ≠ 1 by omega), su_ne (show c ≠ 8 by omega), sr_ne (show c ≠ 8 by omega), su_ne (show c ≠ 109 by omega), sr_ne (show c ≠ 109 by omega), su_ne (show c ≠ 115 by omega), sr_ne (show c ≠ 115 by omega)]) (by simp only [su_at, su_ne, sr_eq, sr_ne, ne_eq, Nat.reduceEqDiff, not_false_eq_true, not_true_eq_false, if_true, if_false]) (by simp only [su_at, su_ne, sr_eq, sr_ne, ne_eq, Nat.reduceEqDiff, not_false_eq_true, not_true_eq_false, if_true, if_false]), hD.congr (by simp only [su_at, su_ne, sr_eq, sr_ne, ne_eq, Nat.reduceEqDiff, not_false_eq_true, not_true_eq_false, if_true, if_false]) (by simp only [su_at, su_ne, sr_eq, sr_ne, ne_eq, Nat.reduceEqDiff, not_false_eq_true, not_true_eq_false, if_true, if_false]), hE.congr (fun c h1 h2 => by simp only [su_ne (show c ≠ 1 by omega), sr_ne (show c ≠ 1 by omega), su_ne (show c ≠ 8 by omega), sr_ne (show c ≠ 8 by omega), su_ne (show c ≠ 109 by omega), sr_ne (show c ≠ 109 by omega), su_ne (show c ≠ 115 by omega), sr_ne (show c ≠ 115 by omega)]) (by simp only [su_at, su_ne, sr_eq, sr_ne, ne_eq, Nat.reduceEqDiff, not_false_eq_true, not_true_eq_false, if_true, if_false]) (by simp only [su_at, su_ne, sr_eq, sr_ne, ne_eq, Nat.reduceEqDiff, not_false_eq_true, not_true_eq_false, if_true, if_false]) (by simp only [su_at, su_ne, sr_eq, sr_ne, ne_eq, Nat.reduceEqDiff, not_false_eq_true, not_true_eq_false, if_true, if_false]), hB.congr (fun c h1 h2 => by simp only [su_ne (show c ≠ 1 by omega), sr_ne (show c ≠ 1 by omega), su_ne (show c ≠ 8 by omega), sr_ne (show c ≠ 8 by omega), su_ne (show c ≠ 109 by omega), sr_ne (show c ≠ 109 by omega), su_ne (show c ≠ 115 by omega), sr_ne (show c ≠ 115 by omega)]) (by simp only [su_at, su_ne, sr_eq, sr_ne, ne_eq, Nat.reduceEqDiff, not_false_eq_true, not_true_eq_false, if_true, if_false]) (by simp only [su_at, su_ne, sr_eq, sr_ne, ne_eq, Nat.reduceEqDiff, not_false_eq_true, not_true_eq_false, if_true, if_false]) (by simp only [su_at, su_ne, sr_eq, sr_ne, ne_eq, Nat.reduceEqDiff, not_false_eq_true, not_true_eq_false, if_true, if_false]), ?_, n + 1, by omega, ?_, ?_, fun j hj => ?_⟩
      · unfold StR at hS ⊢
        simp only [su_at, su_ne, sr_eq, sr_ne, ne_eq, Nat.reduceEqDiff, not_false_eq_true, not_true_eq_false, if_true, if_false]
        exact hS
      · simp only [su_at, su_ne, sr_eq, sr_ne, ne_eq, Nat.reduceEqDiff, not_false_eq_true, not_true_eq_false, if_true, if_false]
        exact hR
      · simp only [su_at, su_ne, sr_eq, sr_ne, ne_eq, Nat.reduceEqDiff, not_false_eq_true, not_true_eq_false, if_true, if_false]
        exact hT0
      · simp only [su_at, su_ne, sr_eq, sr_ne, ne_eq, Nat.reduceEqDiff, not_false_eq_true, not_true_eq_false, if_true, if_false]
      · simp only [su_at, su_ne, sr_eq, sr_ne, ne_eq, Nat.reduceEqDiff, not_false_eq_true, not_true_eq_false, if_true, if_false]
      · simp only [su_at, su_ne, sr_eq, sr_ne, ne_eq, Nat.reduceEqDiff, not_false_eq_true, not_true_eq_false, if_true, if_false]
        by_cases hjn : j = n
        · simp only [hjn, if_true]
          exact ⟨trivial, m, hm1, rfl⟩
        · simp only [hjn, if_false]
          exact t3 j (by omega)
    · have hn8 : n = 220 := by omega
      subst hn8
      have ha : Sem l (d + 29) 23 [.ref 1, .int (nI m)] σ (some (.int 0)) σ := by
        refine Sem_of rfl (Nat.le_of_ble_eq_true rfl) ?_
        show aE l (d + 28) none 5 cX5_append (some .boolean) _ 0 [some (.ref 1), some (.int (nI m))] [] σ
        simp only [eX5_append_0, eX5_append_1, eX5_append_4, eX5_append_7, eX5_append_8, eX5_append_11, eX5_append_14, eX5_append_17, eX5_append_18, eX5_append_19, eX5_append_20, eX5_append_23, eX5_append_24, eX5_append_27, eX5_append_28, eX5_append_29, eX5_append_30, eX5_append_31, eX5_append_34, eX5_append_35, eX5_append_36, eX5_append_39, eX5_append_40, fx0, fx1, fx2, fx3, fx4, nl_int, nl_ref, nl_none, nl_ti, rz_nil, rz_int, rz_ref, rz_long, cf1, cf2, Option.toList_some, Option.toList_none, List.cons_append, List.nil_append, su_at, su_ne, sr_eq, sr_ne, ne_eq, Nat.reduceEqDiff, not_false_eq_true, not_true_eq_false, if_true, if_false, t1, show ¬ nI 220 < 0 by decide, show ¬ nI 220 < 220 by decide, true_and]
        simp
      refine aC.of ha ?_
      simp only [eX9_feed_22, eX9_feed_25, eX9_feed_27, fx0, fx1, fx2, fx3, fx4, nl_int, nl_ref, nl_none, nl_ti, rz_nil, rz_int, rz_ref, rz_long, cf1, cf2, Option.toList_some, Option.toList_none, List.cons_append, List.nil_append, if_true]
      refine hm _ _ 1 r3 ?_
      simp only [eX10_feed_9, eX10_feed_12, eX10_feed_14, eX10_feed_15, eX10_feed_16, eX10_feed_19, eX10_feed_22, eX10_feed_25, eX10_feed_27, fx0, fx1, fx2, fx3, fx4, nl_int, nl_ref, nl_none, nl_ti, rz_nil, rz_int, rz_ref, rz_long, cf1, cf2, Option.toList_some, Option.toList_none, List.cons_append, List.nil_append, show ¬ (1 : Int32) = 0 by decide, if_false, t2, show nI 220 = 220 from rfl, if_true]
      exact ⟨⟨_, rfl, rfl⟩, hI0⟩
  · have r1b : ∀ Q : Option Value → aW → Prop, aE l (d + 29) none 9 cX9_feed (some .int) Q 11 [some (.ref 0), some (.int x)] [] σ → aE l (d + 29) none 9 cX9_feed (some .int) Q 0 [some (.ref 0), some (.int x)] [] σ := by
      intro Q hQ
      rcases r1 with r1 | ⟨r1, r1b⟩
      · simp only [eX9_feed_0, eX9_feed_1, r1, if_true]
        exact hQ
      · have r1b : ¬ x ≤ 255 := r1b
        simp only [eX9_feed_0, eX9_feed_1, eX9_feed_4, eX9_feed_5, eX9_feed_8, fx0, fx1, fx2, fx3, fx4, nl_int, nl_ref, nl_none, nl_ti, rz_nil, rz_int, rz_ref, rz_long, cf1, cf2, Option.toList_some, Option.toList_none, List.cons_append, List.nil_append, r1, r1b, if_false]
        exact hQ
    refine r1b _ ?_
    simp only [eX9_feed_11, eX9_feed_13, fx0, fx1, fx2, fx3, fx4, nl_int, nl_ref, nl_none, nl_ti, rz_nil, rz_int, rz_ref, rz_long, cf1, cf2, Option.toList_some, Option.toList_none, List.cons_append, List.nil_append]
    refine hm _ _ 0 r2 ?_
    simp only [eX10_feed_9, eX10_feed_12, eX10_feed_14, fx0, fx1, fx2, fx3, fx4, nl_int, nl_ref, nl_none, nl_ti, rz_nil, rz_int, rz_ref, rz_long, cf1, cf2, Option.toList_some, Option.toList_none, List.cons_append, List.nil_append, if_true]
    exact ⟨⟨_, rfl, rfl⟩, hI0⟩
end O4
