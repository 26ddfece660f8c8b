/-! watches: both sides -/
def mwF (σ : aW) (H : Nat) (τ : aW) (a : acW) : Prop := (∀ c, c ≠ 109 → c ≠ 123 → c ≠ 124 → c ≠ 125 → τ c = σ c) ∧ (∀ k, k ≠ 31 → τ 109 k = σ 109 k) ∧ τ 109 31 = (if a.1 = 200 then -1 else nI a.1) ∧ (a.1 = 200 ∨ ∀ j, j < H → τ 125 j = nI (a.2 j))
theorem bdn {B : Nat} {x : Int32} (h : bd B x) (hB : B ≤ 1000000) : x = nI x.toNatClampNeg ∧ x.toNatClampNeg ≤ B := by
  obtain ⟨n, h1, rfl⟩ := h
  rw [nic (by omega)]
  exact ⟨rfl, h1⟩
section O11
variable {l : Launch} {d : Nat} {σ : aW}
theorem m_find {P : Option Value → aW → Prop} {H w : Nat} {M L Li T : Nat → Nat} (hw : σ 109 4 = nI w) (hw6 : w ≤ 6) (hH : σ 109 0 = nI H) (hH6 : H ≤ 6) (hH1 : 1 ≤ H) (hM : ∀ q, q < w → σ 110 q = nI (M q) ∧ M q ≤ 30) (hL : ∀ q, q < w → σ 111 q = nI (L q) ∧ L q ≤ 30) (hLi : ∀ q, q < w → σ 112 q = nI (Li q) ∧ Li q ≤ 99) (hT : ∀ q, q < w → σ 114 q = nI (T q) ∧ T q ≤ 199)
    (hP : ∀ τ, mwF σ H τ (exW H w M L Li H T (fun _ => 0) (200, fun _ => 0)) → P none τ) : aC l (d + 5) 130 [.ref 109] σ P := by
  refine aC_of rfl (Nat.le_of_ble_eq_true rfl) ?_
  show aE l (d + 4) none 10 cX10_findWatches none _ 0 [some (.ref 109), none, none, none] [] σ
  simp only [eX10_findWatches_0, eX10_findWatches_1, fx0, fx1, fx2, fx3, fx4, nl_int, nl_ref, nl_none, nl_ti, rz_nil, rz_int, rz_ref, rz_long, cf1, cf2, Option.toList_some, Option.toList_none, List.cons_append, List.nil_append]
  refine aC.of m_save ?_
  generalize hβ : sr σ 123 (pre 6 (σ 114) (σ 123)) = β
  have bo : ∀ c, c ≠ 123 → β c = σ c := fun c hc => by rw [← hβ, sr_ne hc]
  have b109 := bo 109 (by decide)
  have hB : mwB β H w M L Li T := by
    refine ⟨⟨by rw [b109]; exact hw, hw6⟩, ⟨by rw [b109]; exact hH, hH6⟩, by rw [bo 110 (by decide)]; exact hM, by rw [bo 111 (by decide)]; exact hL, by rw [bo 112 (by decide)]; exact hLi, by rw [bo 114 (by decide)]; exact hT, fun q hq => ?_⟩
    rw [bo 114 (by decide), ← hβ, sr_eq]
    exact if_pos hq
  simp only [eX10_findWatches_4, eX10_findWatches_5, eX10_findWatches_6, eX10_findWatches_9, eX10_findWatches_10, fx0, fx1, fx2, fx3, fx4, nl_int, nl_ref, nl_none, nl_ti, rz_nil, rz_int, rz_ref, rz_long, cf1, cf2, Option.toList_some, Option.toList_none, List.cons_append, List.nil_append]
  generalize hρ : su β 109 31 (-1) = ρ
  have ro : ∀ c, c ≠ 109 → ρ c = β c := fun c hc => by rw [← hρ, su_ne hc]
  have r109 : ∀ k, k ≠ 31 → ρ 109 k = β 109 k := fun k hk => by rw [← hρ, su_at, if_neg hk]
  have r31 : ρ 109 31 = -1 := by rw [← hρ, su_at, if_pos rfl]
  have cont : ∀ t1 : Option Int32, aE l (d + 4) none 10 cX10_findWatches none P 30 [some (.ref 109), ti t1, none, none] [] (sr ρ 124 (pre 6 (fun _ => 0) (ρ 124))) := by
    intro t1
    generalize hυ : sr ρ 124 (pre 6 (fun _ => 0) (ρ 124)) = υ
    have uo : ∀ c, c ≠ 124 → υ c = ρ c := fun c hc => by rw [← hυ, sr_ne hc]
    have u109 := uo 109 (by decide)
    have u4 : υ 109 4 = nI w := by rw [u109, r109 4 (by decide), b109]; exact hw
    have hS : mwS β H υ (fun _ => 0) (200, fun _ => 0) := by
      refine ⟨fun c c1 c2 c3 => (uo c c2).trans (ro c c1), fun k hk => by rw [u109]; exact r109 k hk, fun j hj => ?_, by rw [u109, r31]; rfl, Or.inl rfl⟩
      rw [← hυ, sr_eq]
      exact if_pos (by omega)
    by_cases hw0 : w = 0
    · subst hw0
      simp only [eX10_findWatches_30, eX10_findWatches_31, eX10_findWatches_34, eX10_findWatches_37, eX10_findWatches_38, eX10_findWatches_41, eX10_findWatches_42, eX10_findWatches_43, eX10_findWatches_44, eX10_findWatches_112, fx0, fx1, fx2, fx3, fx4, nl_int, nl_ref, nl_none, nl_ti, rz_nil, rz_int, rz_ref, rz_long, cf1, cf2, Option.toList_some, Option.toList_none, List.cons_append, List.nil_append, u4, show nI 0 ≤ 0 by decide, if_true]
      refine hP υ ?_
      obtain ⟨H', rfl⟩ : ∃ H', H = H' + 1 := ⟨H - 1, by omega⟩
      rw [exW_s]
      exact ⟨fun c c1 c2 c3 c4 => ((uo c c3).trans (ro c c1)).trans (bo c c2), fun k hk => by rw [u109, r109 k hk, b109], by rw [u109, r31]; rfl, Or.inl rfl⟩
    · have h4 : ¬ nI w ≤ 0 := nI_nle (by omega) (by omega)
      simp only [eX10_findWatches_30, eX10_findWatches_31, eX10_findWatches_34, eX10_findWatches_37, eX10_findWatches_38, eX10_findWatches_41, eX10_findWatches_42, fx0, fx1, fx2, fx3, fx4, nl_int, nl_ref, nl_none, nl_ti, rz_nil, rz_int, rz_ref, rz_long, cf1, cf2, Option.toList_some, Option.toList_none, List.cons_append, List.nil_append, u4, h4, if_false]
      rw [eX10_findWatches_43]
      simp only [eX10_findWatches_44, fx0, fx1, fx2, fx3, fx4, nl_int, nl_ref, nl_none, nl_ti, rz_nil, rz_int, rz_ref, rz_long, cf1, cf2, Option.toList_some, Option.toList_none, List.cons_append, List.nil_append, show ¬ (1 : Int32) = 0 by decide, if_false]
      refine fw_enum hB (by omega) H 0 (by omega) υ (fun _ => 0) (200, fun _ => 0) none none hS (Nat.le_refl _) (fun _ _ => by omega) (fun _ _ _ => rfl) (fun τ' r' t2 t3 hS' hlo hhi => ?_)
      rw [show wB M L Li (fun _ => 0) T 0 = false from rfl, fuW_ex, show wT M L (fun _ => 0) T 0 = T from rfl] at hS'
      obtain ⟨s1, s2, s3, s4, s5⟩ := hS'
      simp only [eX10_findWatches_104, eX10_findWatches_105, fx0, fx1, fx2, fx3, fx4, nl_int, nl_ref, nl_none, nl_ti, rz_nil, rz_int, rz_ref, rz_long, cf1, cf2, Option.toList_some, Option.toList_none, List.cons_append, List.nil_append]
      refine aC.of (m_nextE (H := H) (w := w) (by rw [s2 4 (by decide)]; exact hB.1.1) hw6 (by rw [s2 0 (by decide)]; exact hB.2.1.1) hH6 hH1 (by omega) (fun j hj => by rw [s3 j hj, hhi j (by omega) hj])) ?_
      simp only [eX10_findWatches_108, eX10_findWatches_109, fx0, fx1, fx2, fx3, fx4, nl_int, nl_ref, nl_none, nl_ti, rz_nil, rz_int, rz_ref, rz_long, cf1, cf2, Option.toList_some, Option.toList_none, List.cons_append, List.nil_append]
      rw [eX10_findWatches_43]
      simp only [eX10_findWatches_44, eX10_findWatches_112, fx0, fx1, fx2, fx3, fx4, nl_int, nl_ref, nl_none, nl_ti, rz_nil, rz_int, rz_ref, rz_long, cf1, cf2, Option.toList_some, Option.toList_none, List.cons_append, List.nil_append, if_true]
      refine hP _ ⟨fun c c1 c2 c3 c4 => ?_, fun k hk => ?_, ?_, ?_⟩
      · rw [sr_ne c3, s1 c c1 c3 c4, bo c c2]
      · rw [sr_ne (by decide), s2 k hk, b109]
      · rw [sr_ne (by decide)]; exact s4
      · rw [sr_ne (by decide)]; exact s5
  have zero : ∀ j k, k + j = 6 → aE l (d + 4) none 10 cX10_findWatches none P 11 [some (.ref 109), some (.int (nI k)), none, none] [] (sr ρ 124 (pre k (fun _ => 0) (ρ 124))) := by
    intro j
    induction j with
    | zero =>
      intro k hkn
      have hkn : k = 6 := by omega
      subst hkn
      rw [eX10_findWatches_11]
      simp only [eX10_findWatches_12, eX10_findWatches_14, fx0, fx1, fx2, fx3, fx4, nl_int, nl_ref, nl_none, nl_ti, rz_nil, rz_int, rz_ref, rz_long, cf1, cf2, Option.toList_some, Option.toList_none, List.cons_append, List.nil_append, show (6 : Int32) ≤ nI 6 by decide, if_true]
      exact cont (some (nI 6))
    | succ j ih =>
      intro k hkn
      have h2 : ¬ (6 : Int32) ≤ nI k := by rw [show (6 : Int32) = nI 6 from rfl, nile (by omega) (by omega)]; omega
      have hin : vp_in (nI k) 6 := vin (by omega) (by omega)
      have hcl : (nI k).toNatClampNeg = k := nic (by omega)
      rw [eX10_findWatches_11]
      simp only [eX10_findWatches_12, eX10_findWatches_14, eX10_findWatches_17, eX10_findWatches_18, eX10_findWatches_21, eX10_findWatches_22, eX10_findWatches_23, eX10_findWatches_24, eX10_findWatches_27, fx0, fx1, fx2, fx3, fx4, nl_int, nl_ref, nl_none, nl_ti, rz_nil, rz_int, rz_ref, rz_long, cf1, cf2, Option.toList_some, Option.toList_none, List.cons_append, List.nil_append, h2, if_false, hin, hcl, nI_1, true_and, pre_step (h := fun _ => 0) rfl]
      exact ih (k + 1) (by omega)
  have := zero 6 0 (by omega)
  rw [pre_0, sr_self] at this
  exact this
theorem op_watches (hI : Inv σ) (x : Int32) : Pair l (d + 30) 72 131 [.int x] σ := by
  have hI0 := hI
  obtain ⟨h, w, s, hK, ⟨hS, hR⟩, hH, hIm, hD, hE, hB, hT⟩ := hI
  have hw6 : w ≤ 6 := hK.1.2.2
  have k1 : σ 9 4 = nI w := hK.1.1
  have k2 : σ 109 4 = nI w := hK.1.2.1
  obtain ⟨hh6, k5, k6, -⟩ := hK.2.2.1
  have kk := hK.2.2.2.2.1
  have hM : ∀ q, q < w → σ 11 q = nI (σ 110 q).toNatClampNeg ∧ (σ 110 q).toNatClampNeg ≤ 30 := fun q hq => by
    rw [← (kk q hq).1]; exact bdn (kk q hq).2.2.2.1 (by decide)
  have hL : ∀ q, q < w → σ 12 q = nI (σ 111 q).toNatClampNeg ∧ (σ 111 q).toNatClampNeg ≤ 30 := fun q hq => by
    rw [← (kk q hq).2.1]; exact bdn (kk q hq).2.2.2.2.1 (by decide)
  have hLi : ∀ q, q < w → σ 13 q = nI (σ 112 q).toNatClampNeg ∧ (σ 112 q).toNatClampNeg ≤ 99 := fun q hq => by
    rw [← (kk q hq).2.2.1]; exact bdn (kk q hq).2.2.2.2.2 (by decide)
  have hT : ∀ q, q < w → σ 114 q = nI (σ 114 q).toNatClampNeg ∧ (σ 114 q).toNatClampNeg ≤ 199 := fun q hq => bdn (hR.1 q hq) (by decide)
  generalize hMn : (fun q => (σ 110 q).toNatClampNeg) = M
  generalize hLn : (fun q => (σ 111 q).toNatClampNeg) = L
  generalize hLin : (fun q => (σ 112 q).toNatClampNeg) = Li
  generalize hTn : (fun q => (σ 114 q).toNatClampNeg) = T
  replace hM : ∀ q, q < w → σ 11 q = nI (M q) ∧ M q ≤ 30 := by rw [← hMn]; exact hM
  replace hL : ∀ q, q < w → σ 12 q = nI (L q) ∧ L q ≤ 30 := by rw [← hLn]; exact hL
  replace hLi : ∀ q, q < w → σ 13 q = nI (Li q) ∧ Li q ≤ 99 := by rw [← hLin]; exact hLi
  replace hT : ∀ q, q < w → σ 114 q = nI (T q) ∧ T q ≤ 199 := by rw [← hTn]; exact hT
  refine aC_of rfl (Nat.le_of_ble_eq_true rfl) ?_
  show aE l (d + 29) none 9 cX9_watches (some .int) _ 0 [some (.ref 0), some (.int x)] [] σ
  simp only [eX9_watches_0, eX9_watches_1, eX9_watches_4, fx0, fx1, fx2, fx3, fx4, nl_int, nl_ref, nl_none, nl_ti, rz_nil, rz_int, rz_ref, rz_long, cf1, cf2, Option.toList_some, Option.toList_none, List.cons_append, List.nil_append]
  refine aC.of (c_stands (Or.inr rfl)) ?_
  rw [k5]
  by_cases h0 : h = 0
  · subst h0
    simp only [eX9_watches_7, eX9_watches_10, eX9_watches_12, fx0, fx1, fx2, fx3, fx4, nl_int, nl_ref, nl_none, nl_ti, rz_nil, rz_int, rz_ref, rz_long, cf1, cf2, Option.toList_some, Option.toList_none, List.cons_append, List.nil_append, show nI 0 ≤ 0 by decide, if_true]
    refine aC_of rfl (Nat.le_of_ble_eq_true rfl) ?_
    show aE l (d + 29) none 10 cX10_watches (some .int) _ 0 [some (.ref 109), some (.int x)] [] σ
    simp only [eX10_watches_0, eX10_watches_1, eX10_watches_4, eX10_watches_7, eX10_watches_9, fx0, fx1, fx2, fx3, fx4, nl_int, nl_ref, nl_none, nl_ti, rz_nil, rz_int, rz_ref, rz_long, cf1, cf2, Option.toList_some, Option.toList_none, List.cons_append, List.nil_append, k6, show nI 0 = 0 from rfl, if_true]
    exact ⟨⟨_, rfl, rfl⟩, hI0⟩
  have hnle : ¬ nI h ≤ 0 := nI_nle (by omega) (by omega)
  have hne0 : ¬ nI h = 0 := nI_ne0 (by omega) (by omega)
  simp only [eX9_watches_7, eX9_watches_10, eX9_watches_12, eX9_watches_13, eX9_watches_14, eX9_watches_17, eX9_watches_18, eX9_watches_21, eX9_watches_22, eX9_watches_25, fx0, fx1, fx2, fx3, fx4, nl_int, nl_ref, nl_none, nl_ti, rz_nil, rz_int, rz_ref, rz_long, cf1, cf2, Option.toList_some, Option.toList_none, List.cons_append, List.nil_append, hnle, if_false, show ¬ (1 : Int32) = 0 by decide]
  refine aC_of rfl (Nat.le_of_ble_eq_true rfl) ?_
  show aE l (d + 28) none 8 cX8_findWatches (some .boolean) _ 0 [some (.ref 91), some (.ref 9), some (.ref 15)] [] σ
  simp only [eX8_findWatches_0, eX8_findWatches_1, eX8_findWatches_2, fx0, fx1, fx2, fx3, fx4, nl_int, nl_ref, nl_none, nl_ti, rz_nil, rz_int, rz_ref, rz_long, cf1, cf2, Option.toList_some, Option.toList_none, List.cons_append, List.nil_append]
  refine aC.of c_layRow ?_
  simp only [eX8_findWatches_5, eX8_findWatches_6, eX8_findWatches_9, eX8_findWatches_12, eX8_findWatches_13, eX8_findWatches_14, eX8_findWatches_15, fx0, fx1, fx2, fx3, fx4, nl_int, nl_ref, nl_none, nl_ti, rz_nil, rz_int, rz_ref, rz_long, cf1, cf2, Option.toList_some, Option.toList_none, List.cons_append, List.nil_append]
  obtain ⟨n, rfl⟩ : ∃ n, h = n + 1 := ⟨h - 1, by omega⟩
  have hd : d + 28 = (d + 24 - n) + n + 4 := by omega
  have hex := exW_le (H := n + 1) (w := w) (M := M) (L := L) (Li := Li) (n + 1) T (fun _ => 0) (200, fun _ => 0)
  rw [hd]
  refine choose (d := d + 24 - n) (σ := σ) k1 hw6 k5 hh6 hM hL hLi n 0 (by omega) _ T (fun _ => 0) (200, fun _ => 0) _ ⟨⟨fun c hc => ?_, fun _ _ => rfl, fun _ _ => rfl, ?_, Or.inl rfl⟩, fun q hq => ?_, fun j hj => absurd hj (by omega)⟩ (Nat.le_refl _) (fun q hq => (hT q hq).2) (fun τ hτ => ?_)
  · rw [su_ne (by omega), sr_ne (by omega)]
  · rw [su_at, if_pos rfl]; rfl
  · rw [su_ne (by omega), sr_eq]
    show pre 6 (σ 16) (σ 94) q = _
    unfold pre
    rw [if_pos (by omega), show σ 16 q = σ 114 q from hS.1 q hq]
    exact (hT q hq).1
  rw [← hd]
  obtain ⟨s1, -, -, s4, s5⟩ := hτ
  generalize hA : exW (n + 1) w M L Li (n + 1) T (fun _ => 0) (200, fun _ => 0) = A at hex s4 s5
  have hex : A.1 ≤ 200 := hex
  have t109 := s1 109 (Or.inr (by decide))
  have hm : ∀ P : Option Value → aW → Prop, (∀ υ, mwF τ (n + 1) υ A → aE l (d + 29) none 10 cX10_watches (some .int) P 14 [some (.ref 109), some (.int x)] [] υ) → aC l (d + 30) 131 [.ref 109, .int x] τ P := by
    intro P hP
    refine aC_of rfl (Nat.le_of_ble_eq_true rfl) ?_
    show aE l (d + 29) none 10 cX10_watches (some .int) _ 0 [some (.ref 109), some (.int x)] [] τ
    simp only [eX10_watches_0, eX10_watches_1, eX10_watches_4, eX10_watches_7, eX10_watches_9, eX10_watches_10, eX10_watches_11, fx0, fx1, fx2, fx3, fx4, nl_int, nl_ref, nl_none, nl_ti, rz_nil, rz_int, rz_ref, rz_long, cf1, cf2, Option.toList_some, Option.toList_none, List.cons_append, List.nil_append, t109, k6, hne0, if_false]
    refine m_find (d := d + 24) (H := n + 1) (w := w) (M := M) (L := L) (Li := Li) (T := T) (by rw [t109]; exact k2) hw6 (by rw [t109]; exact k6) hh6 (by omega) (fun q hq => ?_) (fun q hq => ?_) (fun q hq => ?_) (fun q hq => ?_) (fun υ hυ => ?_)
    · rw [s1 110 (Or.inr (by decide)), ← (kk q hq).1]; exact hM q hq
    · rw [s1 111 (Or.inr (by decide)), ← (kk q hq).2.1]; exact hL q hq
    · rw [s1 112 (Or.inr (by decide)), ← (kk q hq).2.2.1]; exact hLi q hq
    · rw [s1 114 (Or.inr (by decide))]; exact hT q hq
    · rw [hA] at hυ
      exact hP υ hυ
  have hend : ∀ υ, mwF τ (n + 1) υ A → Inv υ := by
    intro υ hυ
    refine hI0.free (fun c c1 c2 => ?_) (fun k hk => ?_)
    · rw [hυ.1 c c1 (by omega) (by omega) (by omega)]
      exact s1 c (by omega)
    · rw [hυ.2.1 k (by omega), t109]
  have t9 := s1 9 (Or.inl (by decide))
  simp only [eX8_findWatches_18, eX8_findWatches_19, eX8_findWatches_22, fx0, fx1, fx2, fx3, fx4, nl_int, nl_ref, nl_none, nl_ti, rz_nil, rz_int, rz_ref, rz_long, cf1, cf2, Option.toList_some, Option.toList_none, List.cons_append, List.nil_append, s4]
  by_cases e : A.1 = 200
  · rw [e]
    simp only [eX8_findWatches_25, eX8_findWatches_32, eX8_findWatches_33, fx0, fx1, fx2, fx3, fx4, nl_int, nl_ref, nl_none, nl_ti, rz_nil, rz_int, rz_ref, rz_long, cf1, cf2, Option.toList_some, Option.toList_none, List.cons_append, List.nil_append, show (199 : Int32) < nI 200 by decide, if_true, vp_nar, true_or, true_and, eX9_watches_28, eX9_watches_31, eX9_watches_32]
    refine hm _ (fun υ hυ => ?_)
    have h31 := hυ.2.2.1
    rw [if_pos e] at h31
    simp only [eX10_watches_14, eX10_watches_15, eX10_watches_18, eX10_watches_26, eX10_watches_27, eX10_watches_30, eX10_watches_59, fx0, fx1, fx2, fx3, fx4, nl_int, nl_ref, nl_none, nl_ti, rz_nil, rz_int, rz_ref, rz_long, cf1, cf2, Option.toList_some, Option.toList_none, List.cons_append, List.nil_append, h31, show (-1 : Int32) < 0 by decide, if_true]
    exact ⟨⟨_, rfl, rfl⟩, hend υ hυ⟩
  · have h199 : ¬ (199 : Int32) < nI A.1 := by rw [show (199 : Int32) = nI 199 from rfl, nilt (by omega) (by omega)]; omega
    have hb := s5.resolve_left e
    have hA0 : ¬ nI A.1 < 0 := nI_pos (by omega)
    simp only [eX8_findWatches_25, eX8_findWatches_28, eX8_findWatches_29, eX8_findWatches_33, fx0, fx1, fx2, fx3, fx4, nl_int, nl_ref, nl_none, nl_ti, rz_nil, rz_int, rz_ref, rz_long, cf1, cf2, Option.toList_some, Option.toList_none, List.cons_append, List.nil_append, h199, if_false, vp_nar, or_true, true_and, eX9_watches_28, eX9_watches_31, eX9_watches_32, eX9_watches_33, eX9_watches_34, show ¬ (1 : Int32) = 0 by decide]
    by_cases ex : x = -1
    · subst ex
      simp only [eX9_watches_35, eX9_watches_38, eX9_watches_39, eX9_watches_42, eX9_watches_45, fx0, fx1, fx2, fx3, fx4, nl_int, nl_ref, nl_none, nl_ti, rz_nil, rz_int, rz_ref, rz_long, cf1, cf2, Option.toList_some, Option.toList_none, List.cons_append, List.nil_append, if_true, s4]
      refine hm _ (fun υ hυ => ?_)
      have h31 := hυ.2.2.1
      rw [if_neg e] at h31
      simp only [eX10_watches_14, eX10_watches_15, eX10_watches_18, eX10_watches_21, eX10_watches_22, eX10_watches_23, eX10_watches_26, eX10_watches_27, eX10_watches_30, eX10_watches_59, fx0, fx1, fx2, fx3, fx4, nl_int, nl_ref, nl_none, nl_ti, rz_nil, rz_int, rz_ref, rz_long, cf1, cf2, Option.toList_some, Option.toList_none, List.cons_append, List.nil_append, h31, hA0, if_true, if_false]
      exact ⟨⟨_, rfl, rfl⟩, hend υ hυ⟩
    · have hm2 : ∀ (P : Option Value → aW → Prop) (v : Int32), inB x.toInt64 0 (nI (n + 1) - 1).toInt64 = v → (∀ υ, mwF τ (n + 1) υ A → aE l (d + 29) none 10 cX10_watches (some .int) P 46 [some (.ref 109), some (.int x)] [.int v] υ) → aC l (d + 30) 131 [.ref 109, .int x] τ P := by
        intro P v hv hP
        refine hm _ (fun υ hυ => ?_)
        have h31 := hυ.2.2.1
        rw [if_neg e] at h31
        have hu0 : υ 109 0 = nI (n + 1) := by rw [hυ.2.1 0 (by decide), t109]; exact k6
        simp only [eX10_watches_14, eX10_watches_15, eX10_watches_18, eX10_watches_21, eX10_watches_22, eX10_watches_23, eX10_watches_33, eX10_watches_34, eX10_watches_35, eX10_watches_36, eX10_watches_37, eX10_watches_40, eX10_watches_41, eX10_watches_42, eX10_watches_43, fx0, fx1, fx2, fx3, fx4, nl_int, nl_ref, nl_none, nl_ti, rz_nil, rz_int, rz_ref, rz_long, cf1, cf2, Option.toList_some, Option.toList_none, List.cons_append, List.nil_append, h31, hA0, if_false, ex, hu0]
        refine aC.of m_in ?_
        rw [hv]
        exact hP υ hυ
      simp only [eX9_watches_35, eX9_watches_46, fx0, fx1, fx2, fx3, fx4, nl_int, nl_ref, nl_none, nl_ti, rz_nil, rz_int, rz_ref, rz_long, cf1, cf2, Option.toList_some, Option.toList_none, List.cons_append, List.nil_append, ex, if_false]
      rcases wat x hh6 with ⟨p, hp, rfl⟩ | ⟨z1, z2⟩
      · obtain ⟨o1, o2⟩ := wat1 hp hh6
        have g0 : ¬ nI p < 0 := nI_pos (by omega)
        have g1 : ¬ nI (n + 1) ≤ nI p := by rw [nile (by omega) (by omega)]; omega
        have g2 : nI p < 6 := by rw [show (6 : Int32) = nI 6 from rfl, nilt (by omega) (by omega)]; omega
        have hin : vp_in (nI p) 6 := vin (by omega) (by omega)
        have hcl : (nI p).toNatClampNeg = p := nic (by omega)
        simp only [eX9_watches_47, eX9_watches_50, eX9_watches_51, eX9_watches_52, eX9_watches_55, eX9_watches_58, eX9_watches_61, eX9_watches_62, eX9_watches_64, eX9_watches_69, eX9_watches_70, eX9_watches_73, eX9_watches_76, eX9_watches_77, eX9_watches_78, fx0, fx1, fx2, fx3, fx4, nl_int, nl_ref, nl_none, nl_ti, rz_nil, rz_int, rz_ref, rz_long, cf1, cf2, Option.toList_some, Option.toList_none, List.cons_append, List.nil_append, g0, g1, g2, t9, k5, if_false, if_true, hin, hcl, true_and, hb p hp]
        refine hm2 _ 1 o2 (fun υ hυ => ?_)
        have hb2 := hυ.2.2.2.resolve_left e
        simp only [eX10_watches_46, eX10_watches_49, eX10_watches_50, eX10_watches_53, eX10_watches_54, eX10_watches_55, eX10_watches_59, fx0, fx1, fx2, fx3, fx4, nl_int, nl_ref, nl_none, nl_ti, rz_nil, rz_int, rz_ref, rz_long, cf1, cf2, Option.toList_some, Option.toList_none, List.cons_append, List.nil_append, show ¬ (1 : Int32) = 0 by decide, if_false, hin, hcl, true_and, hb2 p hp]
        exact ⟨⟨_, rfl, rfl⟩, hend υ hυ⟩
      · have hcls : ∀ Q : Option Value → aW → Prop, Q (some (.int (-1))) τ → aE l (d + 29) none 9 cX9_watches (some .int) Q 47 [some (.ref 0), some (.int x)] [.int x] τ := by
          intro Q hQ
          by_cases g0 : x < 0
          · simp only [eX9_watches_47, eX9_watches_67, eX9_watches_68, fx0, fx1, fx2, fx3, fx4, nl_int, nl_ref, nl_none, nl_ti, rz_nil, rz_int, rz_ref, rz_long, cf1, cf2, Option.toList_some, Option.toList_none, List.cons_append, List.nil_append, g0, if_true]
            exact hQ
          · by_cases g1 : nI (n + 1) ≤ x
            · simp only [eX9_watches_47, eX9_watches_50, eX9_watches_51, eX9_watches_52, eX9_watches_55, eX9_watches_58, eX9_watches_67, eX9_watches_68, fx0, fx1, fx2, fx3, fx4, nl_int, nl_ref, nl_none, nl_ti, rz_nil, rz_int, rz_ref, rz_long, cf1, cf2, Option.toList_some, Option.toList_none, List.cons_append, List.nil_append, g0, g1, t9, k5, if_true, if_false]
              exact hQ
            · exfalso
              have g2 : ¬ 6 ≤ x := fun g2 => g1 (Int32.le_trans (by rw [show (6 : Int32) = nI 6 from rfl, nile (by omega) (by omega)]; omega) g2)
              rw [if_neg g0, if_neg g1, if_neg g2] at z1
              exact absurd z1 (by decide)
        refine hcls _ ?_
        refine hm2 _ 0 z2 (fun υ hυ => ?_)
        simp only [eX10_watches_46, eX10_watches_58, eX10_watches_59, fx0, fx1, fx2, fx3, fx4, nl_int, nl_ref, nl_none, nl_ti, rz_nil, rz_int, rz_ref, rz_long, cf1, cf2, Option.toList_some, Option.toList_none, List.cons_append, List.nil_append, if_true]
        exact ⟨⟨_, rfl, rfl⟩, hend υ hυ⟩
end O11
