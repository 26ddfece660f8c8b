/-! the watcher's and the sleeper's clause: the model -/
def FW (w : Nat) (τ τ' : aW) : Prop := (∀ a, a ≠ 109 → a ≠ 117 → a ≠ 118 → a ≠ 119 → a ≠ 120 → τ' a = τ a) ∧ (∀ k, k ≠ 14 → k ≠ 15 → k ≠ 16 → k ≠ 17 → k ≠ 19 → τ' 109 k = τ 109 k) ∧ τ' 109 19 = nI (w + 1) ∧ ∀ a, 117 ≤ a → a ≤ 120 → ∀ j, j ≠ w → τ' a j = τ a j
theorem FW.st {w : Nat} {σ τ τ' : aW} {b : Nat} (h : FW w σ τ) (hb : 117 ≤ b ∧ b ≤ 120) (f : FM b τ τ') (hj : ∀ j, j ≠ w → τ' b j = τ b j) : FW w σ τ' := by
  obtain ⟨h1, h2, h3, h4⟩ := h
  refine ⟨fun a a1 a2 a3 a4 a5 => ?_, fun k k1 k2 k3 k4 k5 => ?_, ?_, fun a a1 a2 j hjw => ?_⟩
  · rw [f.1 a a1 (by omega)]; exact h1 a a1 a2 a3 a4 a5
  · rw [f.2 k k1 k2 k3 k4]; exact h2 k k1 k2 k3 k4 k5
  · rw [f.2 19 (by decide) (by decide) (by decide) (by decide)]; exact h3
  · by_cases e : a = b
    · rw [e, hj j hjw]; exact h4 b hb.1 hb.2 j hjw
    · rw [f.1 a (by omega) e]; exact h4 a a1 a2 j hjw
section MW
variable {l : Launch} {d : Nat} {σ : aW}
theorem m_watcherT {n w : Nat} {t t1 t2 t3 t4 : rS} {P : Option Value → aW → Prop} (hn : n ≤ 220) (h : MS n σ t) (ht : t.2.1 = 0) (hw : σ 109 19 = nI w) (hw6 : w < 6) (e1 : rd (σ 115) n 0 99 t = t1) (e2 : rd (σ 115) n 0 30 t1 = t2) (e3 : rd (σ 115) n 0 30 t2 = t3) (e4 : rd (σ 115) n 0 99 t3 = t4)
    (hP : ∀ τ, MS n τ t4 → FW w σ τ → (t4.2.1 = 0 → τ 117 w = rdV (σ 115) n 0 t ∧ τ 118 w = rdV (σ 115) n 0 t1 ∧ τ 119 w = rdV (σ 115) n 0 t2 ∧ τ 120 w = rdV (σ 115) n 0 t3) → P (some (.int t4.2.1)) τ) : aC l (d + 4) 105 [.ref 109] σ P := by
  refine aC_of rfl (Nat.le_of_ble_eq_true rfl) ?_
  show aE l (d + 3) none 10 cX10_takeWatcher (some .int) _ 0 [some (.ref 109), none, none] [] σ
  have no0 : ∀ {x : Int32}, ¬ x ≤ 0 → ¬ x = 0 := fun hx e => hx (by rw [e]; decide)
  simp only [eX10_takeWatcher_0, eX10_takeWatcher_1, eX10_takeWatcher_4, eX10_takeWatcher_5, eX10_takeWatcher_6, eX10_takeWatcher_7, eX10_takeWatcher_10, eX10_takeWatcher_11, eX10_takeWatcher_12, eX10_takeWatcher_15, eX10_takeWatcher_16, eX10_takeWatcher_17, eX10_takeWatcher_20, eX10_takeWatcher_21, eX10_takeWatcher_22, eX10_takeWatcher_24, fx0, fx1, fx2, fx3, fx4, nl_int, nl_ref, nl_none, nl_ti, rz_nil, rz_int, rz_ref, rz_long, cf1, cf2, Option.toList_some, Option.toList_none, List.cons_append, List.nil_append, hw, nI_1]
  have y0 : (su σ 109 19 (nI (w + 1))) 115 = σ 115 := su_ne (by decide)
  have h0 : MS n (su σ 109 19 (nI (w + 1))) t := by
    obtain ⟨p1, p2, p3, p4⟩ := h
    exact ⟨by rw [su_at, if_neg (by decide)]; exact p1, by rw [su_at, if_neg (by decide)]; exact p2, p3, by rw [su_at, if_neg (by decide)]; exact p4⟩
  have w0 : FW w σ (su σ 109 19 (nI (w + 1))) := ⟨fun a a1 _ _ _ _ => su_ne a1, fun k _ _ _ _ k5 => by rw [su_at, if_neg k5], by rw [su_at, if_pos rfl], fun a a1 a2 j _ => by rw [su_ne (by omega)]⟩
  refine m_num (i := w) (N := 6) rfl rfl hw6 (by decide) (by decide) hn h0 ht (fun τ1 r1 f1 j1 v1 => ?_)
  rw [y0] at r1 v1 ⊢
  rw [e1] at r1 v1 ⊢
  have w1 := w0.st (by decide) f1 j1
  have x1 : τ1 115 = σ 115 := w1.1 115 (by decide) (by decide) (by decide) (by decide) (by decide)
  have c1 := rd_code (tx := σ 115) (n := n) (lo := 0) (hi := 99) ht
  rw [e1] at c1
  rcases c1 with c1 | c1
  · simp only [eX10_takeWatcher_27, eX10_takeWatcher_28, eX10_takeWatcher_29, eX10_takeWatcher_32, eX10_takeWatcher_33, eX10_takeWatcher_36, eX10_takeWatcher_37, eX10_takeWatcher_38, eX10_takeWatcher_41, eX10_takeWatcher_42, eX10_takeWatcher_43, eX10_takeWatcher_45, fx0, fx1, fx2, fx3, fx4, nl_int, nl_ref, nl_none, nl_ti, rz_nil, rz_int, rz_ref, rz_long, cf1, cf2, Option.toList_some, Option.toList_none, List.cons_append, List.nil_append, c1, show (0 : Int32) ≤ 0 by decide, if_true]
    refine m_num (i := w) (N := 6) rfl rfl hw6 (by decide) (by decide) hn r1 c1 (fun τ2 r2 f2 j2 v2 => ?_)
    rw [x1] at r2 v2 ⊢
    rw [e2] at r2 v2 ⊢
    have w2 := w1.st (by decide) f2 j2
    have x2 : τ2 115 = σ 115 := w2.1 115 (by decide) (by decide) (by decide) (by decide) (by decide)
    have c2 := rd_code (tx := σ 115) (n := n) (lo := 0) (hi := 30) c1
    rw [e2] at c2
    rcases c2 with c2 | c2
    · simp only [eX10_takeWatcher_48, eX10_takeWatcher_49, eX10_takeWatcher_50, eX10_takeWatcher_53, eX10_takeWatcher_54, eX10_takeWatcher_57, eX10_takeWatcher_58, eX10_takeWatcher_59, eX10_takeWatcher_62, eX10_takeWatcher_63, eX10_takeWatcher_64, eX10_takeWatcher_66, fx0, fx1, fx2, fx3, fx4, nl_int, nl_ref, nl_none, nl_ti, rz_nil, rz_int, rz_ref, rz_long, cf1, cf2, Option.toList_some, Option.toList_none, List.cons_append, List.nil_append, c2, show (0 : Int32) ≤ 0 by decide, if_true]
      refine m_num (i := w) (N := 6) rfl rfl hw6 (by decide) (by decide) hn r2 c2 (fun τ3 r3 f3 j3 v3 => ?_)
      rw [x2] at r3 v3 ⊢
      rw [e3] at r3 v3 ⊢
      have w3 := w2.st (by decide) f3 j3
      have x3 : τ3 115 = σ 115 := w3.1 115 (by decide) (by decide) (by decide) (by decide) (by decide)
      have c3 := rd_code (tx := σ 115) (n := n) (lo := 0) (hi := 30) c2
      rw [e3] at c3
      rcases c3 with c3 | c3
      · simp only [eX10_takeWatcher_69, eX10_takeWatcher_70, eX10_takeWatcher_71, eX10_takeWatcher_74, eX10_takeWatcher_75, eX10_takeWatcher_78, eX10_takeWatcher_79, eX10_takeWatcher_80, eX10_takeWatcher_83, eX10_takeWatcher_84, eX10_takeWatcher_85, eX10_takeWatcher_87, fx0, fx1, fx2, fx3, fx4, nl_int, nl_ref, nl_none, nl_ti, rz_nil, rz_int, rz_ref, rz_long, cf1, cf2, Option.toList_some, Option.toList_none, List.cons_append, List.nil_append, c3, show (0 : Int32) ≤ 0 by decide, if_true]
        refine m_num (i := w) (N := 6) rfl rfl hw6 (by decide) (by decide) hn r3 c3 (fun τ4 r4 f4 j4 v4 => ?_)
        rw [x3] at r4 v4 ⊢
        rw [e4] at r4 v4 ⊢
        simp only [eX10_takeWatcher_90, fx0, fx1, fx2, fx3, fx4, nl_int, nl_ref, nl_none, nl_ti, rz_nil, rz_int, rz_ref, rz_long, cf1, cf2, Option.toList_some, Option.toList_none, List.cons_append, List.nil_append]
        refine hP τ4 r4 (w3.st (by decide) f4 j4) (fun c4 => ⟨?_, ?_, ?_, v4 c4⟩)
        · rw [f4.1 117 (by decide) (by decide), f3.1 117 (by decide) (by decide), f2.1 117 (by decide) (by decide)]; exact v1 c1
        · rw [f4.1 118 (by decide) (by decide), f3.1 118 (by decide) (by decide)]; exact v2 c2
        · rw [f4.1 119 (by decide) (by decide)]; exact v3 c3
      · simp only [eX10_takeWatcher_69, eX10_takeWatcher_70, eX10_takeWatcher_71, eX10_takeWatcher_74, eX10_takeWatcher_75, eX10_takeWatcher_90, fx0, fx1, fx2, fx3, fx4, nl_int, nl_ref, nl_none, nl_ti, rz_nil, rz_int, rz_ref, rz_long, cf1, cf2, Option.toList_some, Option.toList_none, List.cons_append, List.nil_append, c3, if_false]
        rw [rd_no c3] at e4
        subst e4
        exact hP τ3 r3 w3 (fun c => absurd c (no0 c3))
    · simp only [eX10_takeWatcher_48, eX10_takeWatcher_49, eX10_takeWatcher_50, eX10_takeWatcher_53, eX10_takeWatcher_54, eX10_takeWatcher_69, eX10_takeWatcher_70, eX10_takeWatcher_71, eX10_takeWatcher_74, eX10_takeWatcher_75, eX10_takeWatcher_90, fx0, fx1, fx2, fx3, fx4, nl_int, nl_ref, nl_none, nl_ti, rz_nil, rz_int, rz_ref, rz_long, cf1, cf2, Option.toList_some, Option.toList_none, List.cons_append, List.nil_append, c2, if_false]
      rw [rd_no c2] at e3
      subst e3
      rw [rd_no c2] at e4
      subst e4
      exact hP τ2 r2 w2 (fun c => absurd c (no0 c2))
  · simp only [eX10_takeWatcher_27, eX10_takeWatcher_28, eX10_takeWatcher_29, eX10_takeWatcher_32, eX10_takeWatcher_33, eX10_takeWatcher_48, eX10_takeWatcher_49, eX10_takeWatcher_50, eX10_takeWatcher_53, eX10_takeWatcher_54, eX10_takeWatcher_69, eX10_takeWatcher_70, eX10_takeWatcher_71, eX10_takeWatcher_74, eX10_takeWatcher_75, eX10_takeWatcher_90, fx0, fx1, fx2, fx3, fx4, nl_int, nl_ref, nl_none, nl_ti, rz_nil, rz_int, rz_ref, rz_long, cf1, cf2, Option.toList_some, Option.toList_none, List.cons_append, List.nil_append, c1, if_false]
    rw [rd_no c1] at e2
    subst e2
    rw [rd_no c1] at e3
    subst e3
    rw [rd_no c1] at e4
    subst e4
    exact hP τ1 r1 w1 (fun c => absurd c (no0 c1))
theorem m_sleeperT {n w s : Nat} {t t1 : rS} {P : Option Value → aW → Prop} (hn : n ≤ 220) (h : MS n σ t) (ht : t.2.1 = 0) (hw : σ 109 19 = nI w) (hw6 : w ≤ 6) (hs : σ 109 24 = nI s) (hs8 : s < 8) (e1 : rd (σ 115) n 0 (nI (2 ^ w - 1)) t = t1)
    (hP : ∀ τ, MS n τ t1 → (∀ a, a ≠ 109 → a ≠ 121 → τ a = σ a) → (∀ k, k ≠ 14 → k ≠ 15 → k ≠ 16 → k ≠ 17 → k ≠ 24 → τ 109 k = σ 109 k) → τ 109 24 = nI (s + 1) → (∀ j, j ≠ s → τ 121 j = σ 121 j) → (t1.2.1 = 0 → τ 121 s = rdV (σ 115) n 0 t) → P (some (.int t1.2.1)) τ) : aC l (d + 4) 106 [.ref 109] σ P := by
  refine aC_of rfl (Nat.le_of_ble_eq_true rfl) ?_
  show aE l (d + 3) none 10 cX10_takeSleeper (some .int) _ 0 [some (.ref 109), none] [] σ
  simp only [eX10_takeSleeper_0, eX10_takeSleeper_1, eX10_takeSleeper_4, eX10_takeSleeper_5, eX10_takeSleeper_6, eX10_takeSleeper_7, eX10_takeSleeper_10, eX10_takeSleeper_11, eX10_takeSleeper_12, eX10_takeSleeper_15, eX10_takeSleeper_16, eX10_takeSleeper_17, eX10_takeSleeper_20, eX10_takeSleeper_21, eX10_takeSleeper_22, eX10_takeSleeper_23, eX10_takeSleeper_24, eX10_takeSleeper_27, eX10_takeSleeper_28, eX10_takeSleeper_29, eX10_takeSleeper_30, fx0, fx1, fx2, fx3, fx4, nl_int, nl_ref, nl_none, nl_ti, rz_nil, rz_int, rz_ref, rz_long, cf1, cf2, Option.toList_some, Option.toList_none, List.cons_append, List.nil_append, su_at, su_ne, sr_eq, sr_ne, ne_eq, Nat.reduceEqDiff, not_false_eq_true, not_true_eq_false, if_true, if_false, hs, hw, nI_1, ev6 w hw6]
  have y0 : (su σ 109 24 (nI (s + 1))) 115 = σ 115 := su_ne (by decide)
  have h0 : MS n (su σ 109 24 (nI (s + 1))) t := by
    obtain ⟨p1, p2, p3, p4⟩ := h
    exact ⟨by rw [su_at, if_neg (by decide)]; exact p1, by rw [su_at, if_neg (by decide)]; exact p2, p3, by rw [su_at, if_neg (by decide)]; exact p4⟩
  refine m_num (i := s) (N := 8) rfl rfl hs8 (by decide) (by decide) hn h0 ht (fun τ1 r1 f1 j1 v1 => ?_)
  rw [y0] at r1 v1 ⊢
  rw [e1] at r1 v1 ⊢
  simp only [eX10_takeSleeper_33, fx0, fx1, fx2, fx3, fx4, nl_int, nl_ref, nl_none, nl_ti, rz_nil, rz_int, rz_ref, rz_long, cf1, cf2, Option.toList_some, Option.toList_none, List.cons_append, List.nil_append]
  refine hP τ1 r1 (fun a a1 a2 => by rw [f1.1 a a1 a2, su_ne a1]) (fun k k1 k2 k3 k4 k5 => by rw [f1.2 k k1 k2 k3 k4, su_at, if_neg k5]) (by rw [f1.2 24 (by decide) (by decide) (by decide) (by decide), su_at, if_pos rfl]) (fun j hj => by rw [j1 j hj, su_ne (by decide)]) v1
end MW
