/-! a clause and the whole text: the model -/
/-- the cells of the model's reading -/
def MD (σ : aW) (D : dT) : Prop := (∀ k, k < 4 → σ 116 k = D.1 2 k) ∧ (σ 109 19 = nI D.2.2.1 ∧ σ 109 24 = nI D.2.2.2) ∧ (∀ p, p < D.2.2.1 → σ 117 p = D.1 3 p ∧ σ 118 p = D.1 4 p ∧ σ 119 p = D.1 5 p ∧ σ 120 p = D.1 6 p) ∧ ∀ q, q < D.2.2.2 → σ 121 q = D.1 7 q
def FT (τ τ' : aW) : Prop := (∀ a, a ≠ 109 → a < 116 ∨ 121 < a → τ' a = τ a) ∧ ∀ k, k ≠ 14 → k ≠ 15 → k ≠ 16 → k ≠ 17 → k ≠ 19 → k ≠ 24 → τ' 109 k = τ 109 k
theorem FT.rf (τ : aW) : FT τ τ := ⟨fun _ _ _ => rfl, fun _ _ _ _ _ _ _ => rfl⟩
theorem FT.tr {a b c : aW} (h : FT a b) (h' : FT b c) : FT a c := ⟨fun x hx hx2 => (h'.1 x hx hx2).trans (h.1 x hx hx2), fun k k1 k2 k3 k4 k5 k6 => (h'.2 k k1 k2 k3 k4 k5 k6).trans (h.2 k k1 k2 k3 k4 k5 k6)⟩
theorem FT.p15 {τ τ' : aW} (h : FT τ τ') (v : Int32) : FT τ (su τ' 109 15 v) := ⟨fun a ha h2 => by rw [su_ne ha]; exact h.1 a ha h2, fun k k1 k2 k3 k4 k5 k6 => by rw [su_at, if_neg k2]; exact h.2 k k1 k2 k3 k4 k5 k6⟩
theorem MD.p1 {σ τ : aW} {D : dT} (h : MD σ D) (e : ∀ a, a ≠ 109 → τ a = σ a) (e9 : ∀ k, k ≠ 14 → k ≠ 15 → τ 109 k = σ 109 k) : MD τ D := by
  unfold MD
  rw [e 116 (by decide), e 117 (by decide), e 118 (by decide), e 119 (by decide), e 120 (by decide), e 121 (by decide), e9 19 (by decide) (by decide), e9 24 (by decide) (by decide)]
  exact h
/-- codes are 0, or above it -/
def okc (c : Int32) : Prop := c = 0 ∨ ¬ c ≤ 0
theorem okc_rd {tx : Nat → Int32} {n : Nat} {lo hi : Int32} {t : rS} (h : okc t.2.1) : okc (rd tx n lo hi t).2.1 := by
  by_cases e : t.2.1 = 0
  · exact rd_code e
  · unfold rd
    rw [if_neg e]
    exact h
theorem okc_rdE {tx : Nat → Int32} {n : Nat} {t : rS} (h : okc t.2.1) : okc (rdE tx n t).2.1 := by
  unfold rdE
  split
  · split
    · exact Or.inl rfl
    · exact Or.inr (show ¬ (1 : Int32) ≤ 0 by decide)
  · exact h
theorem okc_wd (x : Int32) (h w s : Nat) : okc (wdF x h w s) := by
  unfold wdF
  split
  · split
    · exact Or.inl rfl
    · exact Or.inr (by decide)
  · split
    · exact Or.inr (by decide)
    · split
      · split
        · exact Or.inl rfl
        · exact Or.inr (by decide)
      · split
        · split
          · exact Or.inl rfl
          · exact Or.inr (by decide)
        · exact Or.inr (by decide)
theorem okc_clT {tx : Nat → Int32} {n : Nat} {D : dT} {t : rS} : okc (clT tx n D t).2.1 := by
  have z : okc ((t.1 + 1, 0, t.2.2) : rS).2.1 := Or.inl rfl
  unfold clT
  split
  · split
    · exact okc_rdE (okc_rd (okc_rd (okc_rd (okc_rd z))))
    · split
      · exact okc_rdE (okc_rd (okc_rd (okc_rd (okc_rd z))))
      · exact okc_rdE (okc_rd z)
  · exact okc_wd _ _ _ _
theorem okc_rdT {tx : Nat → Int32} {n : Nat} : ∀ f D t, okc t.2.1 → okc (rdT tx n f D t).2.2.1 := by
  intro f
  induction f with
  | zero => intro D t h; rw [rdT_0]; exact h
  | succ f ih =>
    intro D t h
    rw [rdT_s]
    by_cases e : t.1 < n ∧ t.2.1 = 0
    · rw [if_pos e]
      exact ih _ _ okc_clT
    · rw [if_neg e]; exact h
section MT
variable {l : Launch} {d : Nat} {σ : aW}
theorem m_tail {n : Nat} {t : rS} {x is fu : Int32} {Q : Option Value → aW → Prop} (hn : n ≤ 220) (h : MS n σ t)
    (hQ : ∀ τ, ((rdE (σ 115) n t).2.1 = 0 → τ 109 15 = nI (rdE (σ 115) n t).1) → τ 109 14 = (rdE (σ 115) n t).2.2 → (∀ a, a ≠ 109 → τ a = σ a) → (∀ k, k ≠ 14 → k ≠ 15 → τ 109 k = σ 109 k) → Q (some (.int (rdE (σ 115) n t).2.1)) τ) :
    aE l (d + 4) none 10 cX10_takeClause (some .int) Q 173 [some (.ref 109), some (.int x), some (.int is), some (.int fu), none] [.int t.2.1] σ := by
  obtain ⟨h1, h4, hp, h2⟩ := h
  unfold rdE at hQ
  by_cases e : t.2.1 = 0
  · rw [if_pos e] at hQ
    simp only [eX10_takeClause_173, eX10_takeClause_175, eX10_takeClause_177, eX10_takeClause_180, eX10_takeClause_181, fx0, fx1, fx2, fx3, fx4, nl_int, nl_ref, nl_none, nl_ti, rz_nil, rz_int, rz_ref, rz_long, cf1, cf2, Option.toList_some, Option.toList_none, List.cons_append, List.nil_append, e, if_true]
    refine aC.of (m_here h1 hn h4 hp) ?_
    by_cases e2 : hrF (σ 115) n (sk (σ 115) n t.1) = 59
    · rw [if_pos e2] at hQ
      simp only [eX10_takeClause_184, eX10_takeClause_186, eX10_takeClause_199, eX10_takeClause_200, eX10_takeClause_201, eX10_takeClause_204, eX10_takeClause_205, eX10_takeClause_206, eX10_takeClause_209, eX10_takeClause_211, fx0, fx1, fx2, fx3, fx4, nl_int, nl_ref, nl_none, nl_ti, rz_nil, rz_int, rz_ref, rz_long, cf1, cf2, Option.toList_some, Option.toList_none, List.cons_append, List.nil_append, su_at, su_ne, sr_eq, sr_ne, ne_eq, Nat.reduceEqDiff, not_false_eq_true, not_true_eq_false, if_true, if_false, e2, if_true, su_su, nI_1]
      refine hQ _ (fun _ => ?_) ?_ (fun a ha => su_ne ha) (fun k k1 k2 => by rw [su_at, if_neg k2])
      · rw [su_at, if_pos rfl]
      · rw [su_at, if_neg (by decide)]; exact h2
    · rw [if_neg e2] at hQ
      simp only [eX10_takeClause_184, eX10_takeClause_186, eX10_takeClause_189, eX10_takeClause_190, eX10_takeClause_191, eX10_takeClause_192, eX10_takeClause_195, fx0, fx1, fx2, fx3, fx4, nl_int, nl_ref, nl_none, nl_ti, rz_nil, rz_int, rz_ref, rz_long, cf1, cf2, Option.toList_some, Option.toList_none, List.cons_append, List.nil_append, su_at, su_ne, sr_eq, sr_ne, ne_eq, Nat.reduceEqDiff, not_false_eq_true, not_true_eq_false, if_true, if_false, e2, if_false]
      refine aC.of m_fails ?_
      simp only [eX10_takeClause_198, fx0, fx1, fx2, fx3, fx4, nl_int, nl_ref, nl_none, nl_ti, rz_nil, rz_int, rz_ref, rz_long, cf1, cf2, Option.toList_some, Option.toList_none, List.cons_append, List.nil_append]
      refine hQ _ (fun c => absurd c (show ¬ (1 : Int32) = 0 by decide)) ?_ (fun a ha => by rw [su_ne ha, su_ne ha]) (fun k k1 k2 => by rw [su_at, if_neg k1, su_at, if_neg k2])
      rw [su_at, if_pos rfl]
  · rw [if_neg e] at hQ
    simp only [eX10_takeClause_173, eX10_takeClause_175, eX10_takeClause_177, eX10_takeClause_199, eX10_takeClause_200, eX10_takeClause_201, eX10_takeClause_204, eX10_takeClause_205, eX10_takeClause_206, eX10_takeClause_209, eX10_takeClause_211, fx0, fx1, fx2, fx3, fx4, nl_int, nl_ref, nl_none, nl_ti, rz_nil, rz_int, rz_ref, rz_long, cf1, cf2, Option.toList_some, Option.toList_none, List.cons_append, List.nil_append, e, if_false]
    refine hQ _ (fun c => absurd c e) ?_ (fun a ha => su_ne ha) (fun k k1 k2 => by rw [su_at, if_neg k2])
    rw [su_at, if_neg (by decide)]; exact h2
theorem m_clause {n : Nat} {t : rS} {D : dT} {P : Option Value → aW → Prop} (hn : n ≤ 220) (h : MS n σ t) (hp : t.1 < n) (hs : sk (σ 115) n t.1 = t.1) (hM : MD σ D) (hD : DOK D)
    (hP : ∀ τ, ((clT (σ 115) n D t).2.1 = 0 → τ 109 15 = nI (clT (σ 115) n D t).1) → τ 109 14 = (clT (σ 115) n D t).2.2 → FT σ τ → ((clT (σ 115) n D t).2.1 = 0 → MD τ (clD (σ 115) n D t)) → P (some (.int (clT (σ 115) n D t).2.1)) τ) : aC l (d + 5) 107 [.ref 109] σ P := by
  obtain ⟨p0, c0, w0⟩ := t
  obtain ⟨δ, hh, w, s⟩ := D
  obtain ⟨h1, h4, hp', h2⟩ := h
  have hM0 := hM
  obtain ⟨k1, ⟨k2, k3⟩, k4, k5⟩ := hM
  obtain ⟨⟨d1, d2, d3⟩, d4, ⟨d5, d6⟩, d7, d8⟩ := hD
  dsimp only at h1 h4 hp hp' h2 hs k1 k2 k3 k4 k5 d1 d2 d3 d4 d5 d6 d7 d8
  have k0 : σ 116 0 = nI hh := by rw [k1 0 (by decide)]; exact d5
  refine aC_of rfl (Nat.le_of_ble_eq_true rfl) ?_
  show aE l (d + 4) none 10 cX10_takeClause (some .int) _ 0 [some (.ref 109), none, none, none, none] [] σ
  simp only [eX10_takeClause_0, eX10_takeClause_1, fx0, fx1, fx2, fx3, fx4, nl_int, nl_ref, nl_none, nl_ti, rz_nil, rz_int, rz_ref, rz_long, cf1, cf2, Option.toList_some, Option.toList_none, List.cons_append, List.nil_append]
  refine aC.of (m_here h1 hn h4 hp') ?_
  rw [hs, su_same h4]
  unfold clT clD at hP
  dsimp only at hP
  have i4 : vp_in 0 4 := vin (n := 0) (by decide) (by decide)
  have q1 : ¬ (0 : Int32) < 0 ∧ ¬ (1 : Int32) < 0 ∧ ¬ (2 : Int32) < 0 ∧ (-1 : Int32) < 0 := by decide
  have q2 : (0 : Int32) ≤ 0 ∧ ¬ (1 : Int32) ≤ 0 ∧ ¬ (2 : Int32) ≤ 0 := by decide
  have q3 : ¬ (1 : Int32) = 0 ∧ ¬ (2 : Int32) = 0 ∧ ¬ (2 : Int32) = 1 := by decide
  have q4 : ¬ (112 : Int32) = 107 ∧ ¬ (115 : Int32) = 107 ∧ ¬ (115 : Int32) = 112 := by decide
  have nz : (nI hh = 0) = (hh = 0) := by rw [show (0 : Int32) = nI 0 from rfl]; exact nieq (by omega) (by omega)
  have nle : (nI hh ≤ 0) = (hh = 0) := by
    rw [show (0 : Int32) = nI 0 from rfl, nile (by omega) (by omega)]
    exact propext ⟨fun c => by omega, fun c => by omega⟩
  have n6 : (nI w = 6) = (w = 6) := by rw [show (6 : Int32) = nI 6 from rfl]; exact nieq (by omega) (by omega)
  have n8 : (nI s = 8) = (s = 8) := by rw [show (8 : Int32) = nI 8 from rfl]; exact nieq (by omega) (by omega)
  have bad : ∀ (v : Int32), wdF (hrF (σ 115) n p0) hh w s = v → ¬ v = 0 → P (some (.int v)) (su σ 109 14 (nI p0)) := by
    intro v e hv
    rw [e, if_neg hv] at hP
    exact hP _ (fun c => absurd c hv) (by rw [su_at, if_pos rfl]) ⟨fun a ha _ => su_ne ha, fun k k1 _ _ _ _ _ => by rw [su_at, if_neg k1]⟩ (fun c => absurd c hv)
  have u0 : MS n (su σ 109 15 (nI (p0 + 1))) (p0 + 1, 0, w0) := by
    refine ⟨?_, ?_, hp, ?_⟩
    · rw [su_at, if_neg (by decide)]; exact h1
    · rw [su_at, if_pos rfl]
    · rw [su_at, if_neg (by decide)]; exact h2
  have y0 : (su σ 109 15 (nI (p0 + 1))) 115 = σ 115 := su_ne (by decide)
  have f0 : FT σ (su σ 109 15 (nI (p0 + 1))) := (FT.rf σ).p15 _
  have m0 : MD (su σ 109 15 (nI (p0 + 1))) (δ, hh, w, s) := hM0.p1 (fun a ha => su_ne ha) (fun k _ k2 => by rw [su_at, if_neg k2])
  generalize hx : hrF (σ 115) n p0 = x at hP bad ⊢
  by_cases e1 : x = 107
  · by_cases e2 : hh = 0
    · have ew : wdF x hh w s = 0 := by unfold wdF; rw [if_pos e1, if_pos e2]
      rw [ew, if_pos rfl, if_pos e1, if_pos e1] at hP
      simp only [eX10_takeClause_4, eX10_takeClause_5, eX10_takeClause_6, eX10_takeClause_8, eX10_takeClause_11, eX10_takeClause_12, eX10_takeClause_36, eX10_takeClause_37, eX10_takeClause_38, eX10_takeClause_41, eX10_takeClause_42, eX10_takeClause_64, eX10_takeClause_65, eX10_takeClause_68, eX10_takeClause_69, eX10_takeClause_72, eX10_takeClause_73, eX10_takeClause_74, eX10_takeClause_81, eX10_takeClause_82, eX10_takeClause_121, eX10_takeClause_122, eX10_takeClause_123, eX10_takeClause_136, eX10_takeClause_137, eX10_takeClause_138, eX10_takeClause_141, eX10_takeClause_142, eX10_takeClause_143, eX10_takeClause_146, eX10_takeClause_147, eX10_takeClause_150, eX10_takeClause_151, fx0, fx1, fx2, fx3, fx4, nl_int, nl_ref, nl_none, nl_ti, rz_nil, rz_int, rz_ref, rz_long, cf1, cf2, Option.toList_some, Option.toList_none, List.cons_append, List.nil_append, e1, if_true, if_false, q1, q2, i4, true_and, k0, nle, e2, h4, nI_1]
      refine m_night hn u0 rfl rfl rfl rfl rfl (fun τ r f v => ?_)
      rw [y0] at r v
      simp only [eX10_takeClause_154, fx0, fx1, fx2, fx3, fx4, nl_int, nl_ref, nl_none, nl_ti, rz_nil, rz_int, rz_ref, rz_long, cf1, cf2, Option.toList_some, Option.toList_none, List.cons_append, List.nil_append]
      have y1 : τ 115 = σ 115 := by rw [f.1 115 (by decide) (by decide)]; exact y0
      refine m_tail (t := r4 (σ 115) n 1 6 99 99 20 (p0 + 1, 0, w0)) hn r (fun τ' v1 v2 v3 v4 => ?_)
      rw [y1] at v1 v2 ⊢
      refine hP τ' v1 v2 ?_ (fun c => ?_)
      · refine f0.tr ⟨fun a ha hb => ?_, fun k a1 a2 a3 a4 a5 a6 => ?_⟩
        · rw [v3 a ha, f.1 a ha (by omega)]
        · rw [v4 k a1 a2, f.2 k a1 a2 a3 a4]
      · have c0 := rdE_0 c
        unfold r4 at c0
        obtain ⟨g0, g1, g2, g3⟩ := v c0
        obtain ⟨z1, z2⟩ := d4 e2
        unfold nD MD
        dsimp only
        refine ⟨fun k hk => ?_, ⟨?_, ?_⟩, fun p hp => absurd hp (by omega), fun q hq => absurd hq (by omega)⟩
        · rw [v3 116 (by decide)]
          simp only [su_at]
          rcases (show k = 0 ∨ k = 1 ∨ k = 2 ∨ k = 3 by omega) with rfl | rfl | rfl | rfl
          · simpa using g0
          · simpa using g1
          · simpa using g2
          · simpa using g3
        · rw [v4 19 (by decide) (by decide), f.2 19 (by decide) (by decide) (by decide) (by decide)]; exact m0.2.1.1
        · rw [v4 24 (by decide) (by decide), f.2 24 (by decide) (by decide) (by decide) (by decide)]; exact m0.2.1.2
    · have ew : wdF x hh w s = 3 := by unfold wdF; rw [if_pos e1, if_neg e2]
      simp only [eX10_takeClause_4, eX10_takeClause_5, eX10_takeClause_6, eX10_takeClause_8, eX10_takeClause_11, eX10_takeClause_12, eX10_takeClause_36, eX10_takeClause_37, eX10_takeClause_38, eX10_takeClause_41, eX10_takeClause_42, eX10_takeClause_64, eX10_takeClause_65, eX10_takeClause_68, eX10_takeClause_69, eX10_takeClause_72, eX10_takeClause_73, eX10_takeClause_74, eX10_takeClause_77, eX10_takeClause_78, eX10_takeClause_121, eX10_takeClause_122, eX10_takeClause_123, eX10_takeClause_126, eX10_takeClause_127, eX10_takeClause_128, eX10_takeClause_129, eX10_takeClause_132, fx0, fx1, fx2, fx3, fx4, nl_int, nl_ref, nl_none, nl_ti, rz_nil, rz_int, rz_ref, rz_long, cf1, cf2, Option.toList_some, Option.toList_none, List.cons_append, List.nil_append, e1, if_true, if_false, q1, q2, q3, i4, true_and, k0, nle, e2, h4]
      refine aC.of m_fails ?_
      simp only [eX10_takeClause_135, fx0, fx1, fx2, fx3, fx4, nl_int, nl_ref, nl_none, nl_ti, rz_nil, rz_int, rz_ref, rz_long, cf1, cf2, Option.toList_some, Option.toList_none, List.cons_append, List.nil_append]
      exact bad 3 ew (by decide)
  · by_cases e2 : x = 112
    · by_cases e3 : hh = 0
      · have ew : wdF x hh w s = 1 := by unfold wdF; rw [if_neg e1, if_pos e3]
        simp only [eX10_takeClause_4, eX10_takeClause_5, eX10_takeClause_6, eX10_takeClause_8, eX10_takeClause_15, eX10_takeClause_16, eX10_takeClause_18, eX10_takeClause_21, eX10_takeClause_22, eX10_takeClause_36, eX10_takeClause_37, eX10_takeClause_38, eX10_takeClause_41, eX10_takeClause_42, eX10_takeClause_45, eX10_takeClause_46, eX10_takeClause_49, eX10_takeClause_50, eX10_takeClause_51, eX10_takeClause_54, eX10_takeClause_55, eX10_takeClause_56, eX10_takeClause_57, eX10_takeClause_60, fx0, fx1, fx2, fx3, fx4, nl_int, nl_ref, nl_none, nl_ti, rz_nil, rz_int, rz_ref, rz_long, cf1, cf2, Option.toList_some, Option.toList_none, List.cons_append, List.nil_append, e2, if_true, if_false, q1, q2, q3, q4, i4, true_and, k0, nz, e3, h4]
        refine aC.of m_fails ?_
        simp only [eX10_takeClause_63, fx0, fx1, fx2, fx3, fx4, nl_int, nl_ref, nl_none, nl_ti, rz_nil, rz_int, rz_ref, rz_long, cf1, cf2, Option.toList_some, Option.toList_none, List.cons_append, List.nil_append]
        exact bad 1 ew (by decide)
      · by_cases e4 : w < 6
        · have ew : wdF x hh w s = 0 := by unfold wdF; rw [if_neg e1, if_neg e3, if_pos e2, if_pos e4]
          have e5 : ¬ w = 6 := by omega
          rw [ew, if_pos rfl, if_neg e1, if_neg e1, if_pos e2, if_pos e2] at hP
          simp only [eX10_takeClause_4, eX10_takeClause_5, eX10_takeClause_6, eX10_takeClause_8, eX10_takeClause_15, eX10_takeClause_16, eX10_takeClause_18, eX10_takeClause_21, eX10_takeClause_22, eX10_takeClause_36, eX10_takeClause_37, eX10_takeClause_38, eX10_takeClause_41, eX10_takeClause_42, eX10_takeClause_45, eX10_takeClause_46, eX10_takeClause_49, eX10_takeClause_50, eX10_takeClause_51, eX10_takeClause_64, eX10_takeClause_65, eX10_takeClause_85, eX10_takeClause_86, eX10_takeClause_87, eX10_takeClause_90, eX10_takeClause_91, eX10_takeClause_94, eX10_takeClause_96, eX10_takeClause_103, eX10_takeClause_104, eX10_takeClause_121, eX10_takeClause_122, eX10_takeClause_123, eX10_takeClause_136, eX10_takeClause_137, eX10_takeClause_138, eX10_takeClause_141, eX10_takeClause_142, eX10_takeClause_143, eX10_takeClause_146, eX10_takeClause_147, eX10_takeClause_157, eX10_takeClause_158, eX10_takeClause_159, eX10_takeClause_162, eX10_takeClause_163, fx0, fx1, fx2, fx3, fx4, nl_int, nl_ref, nl_none, nl_ti, rz_nil, rz_int, rz_ref, rz_long, cf1, cf2, Option.toList_some, Option.toList_none, List.cons_append, List.nil_append, e2, if_true, if_false, q1, q2, q3, q4, i4, true_and, k0, nz, e3, k2, n6, e5, h4, nI_1]
          refine m_watcherT (w := w) hn u0 rfl m0.2.1.1 e4 rfl rfl rfl rfl (fun τ r f v => ?_)
          rw [y0] at r v
          simp only [eX10_takeClause_166, fx0, fx1, fx2, fx3, fx4, nl_int, nl_ref, nl_none, nl_ti, rz_nil, rz_int, rz_ref, rz_long, cf1, cf2, Option.toList_some, Option.toList_none, List.cons_append, List.nil_append]
          have y1 : τ 115 = σ 115 := by rw [f.1 115 (by decide) (by decide) (by decide) (by decide) (by decide)]; exact y0
          refine m_tail (t := r4 (σ 115) n 0 99 30 30 99 (p0 + 1, 0, w0)) hn r (fun τ' v1 v2 v3 v4 => ?_)
          rw [y1] at v1 v2 ⊢
          refine hP τ' v1 v2 ?_ (fun c => ?_)
          · refine f0.tr ⟨fun a ha hb => ?_, fun k a1 a2 a3 a4 a5 a6 => ?_⟩
            · rw [v3 a ha, f.1 a ha (by omega) (by omega) (by omega) (by omega)]
            · rw [v4 k a1 a2, f.2.1 k a1 a2 a3 a4 a5]
          · have c0 := rdE_0 c
            unfold r4 at c0
            obtain ⟨g0, g1, g2, g3⟩ := v c0
            unfold pD MD
            dsimp only
            refine ⟨fun k hk => ?_, ⟨?_, ?_⟩, fun p hp => ?_, fun q hq => ?_⟩
            · simp only [su_at, su_ne, sr_eq, sr_ne, ne_eq, Nat.reduceEqDiff, not_false_eq_true, not_true_eq_false, if_true, if_false]
              rw [v3 116 (by decide), f.1 116 (by decide) (by decide) (by decide) (by decide) (by decide)]
              exact m0.1 k hk
            · rw [v4 19 (by decide) (by decide)]; exact f.2.2.1
            · rw [v4 24 (by decide) (by decide), f.2.1 24 (by decide) (by decide) (by decide) (by decide) (by decide)]; exact m0.2.1.2
            · simp only [su_at, su_ne, sr_eq, sr_ne, ne_eq, Nat.reduceEqDiff, not_false_eq_true, not_true_eq_false, if_true, if_false, v3 117 (by decide), v3 118 (by decide), v3 119 (by decide), v3 120 (by decide)]
              by_cases ep : p = w
              · subst ep
                simp only [if_true]
                exact ⟨g0, g1, g2, g3⟩
              · simp only [ep, if_false]
                rw [f.2.2.2 117 (by decide) (by decide) p ep, f.2.2.2 118 (by decide) (by decide) p ep, f.2.2.2 119 (by decide) (by decide) p ep, f.2.2.2 120 (by decide) (by decide) p ep]
                exact m0.2.2.1 p (by dsimp only; omega)
            · simp only [su_at, su_ne, sr_eq, sr_ne, ne_eq, Nat.reduceEqDiff, not_false_eq_true, not_true_eq_false, if_true, if_false]
              rw [v3 121 (by decide), f.1 121 (by decide) (by decide) (by decide) (by decide) (by decide)]
              exact m0.2.2.2 q hq
        · have ew : wdF x hh w s = 3 := by unfold wdF; rw [if_neg e1, if_neg e3, if_pos e2, if_neg e4]
          have e5 : w = 6 := by omega
          simp only [eX10_takeClause_4, eX10_takeClause_5, eX10_takeClause_6, eX10_takeClause_8, eX10_takeClause_15, eX10_takeClause_16, eX10_takeClause_18, eX10_takeClause_21, eX10_takeClause_22, eX10_takeClause_36, eX10_takeClause_37, eX10_takeClause_38, eX10_takeClause_41, eX10_takeClause_42, eX10_takeClause_45, eX10_takeClause_46, eX10_takeClause_49, eX10_takeClause_50, eX10_takeClause_51, eX10_takeClause_64, eX10_takeClause_65, eX10_takeClause_85, eX10_takeClause_86, eX10_takeClause_87, eX10_takeClause_90, eX10_takeClause_91, eX10_takeClause_94, eX10_takeClause_96, eX10_takeClause_99, eX10_takeClause_100, eX10_takeClause_121, eX10_takeClause_122, eX10_takeClause_123, eX10_takeClause_126, eX10_takeClause_127, eX10_takeClause_128, eX10_takeClause_129, eX10_takeClause_132, fx0, fx1, fx2, fx3, fx4, nl_int, nl_ref, nl_none, nl_ti, rz_nil, rz_int, rz_ref, rz_long, cf1, cf2, Option.toList_some, Option.toList_none, List.cons_append, List.nil_append, e2, if_true, if_false, q1, q2, q3, q4, i4, true_and, k0, nz, e3, k2, n6, e5, h4]
          refine aC.of m_fails ?_
          simp only [eX10_takeClause_135, fx0, fx1, fx2, fx3, fx4, nl_int, nl_ref, nl_none, nl_ti, rz_nil, rz_int, rz_ref, rz_long, cf1, cf2, Option.toList_some, Option.toList_none, List.cons_append, List.nil_append]
          exact bad 3 ew (by decide)
    · by_cases e6 : x = 115
      · by_cases e3 : hh = 0
        · have ew : wdF x hh w s = 1 := by unfold wdF; rw [if_neg e1, if_pos e3]
          simp only [eX10_takeClause_4, eX10_takeClause_5, eX10_takeClause_6, eX10_takeClause_8, eX10_takeClause_15, eX10_takeClause_16, eX10_takeClause_18, eX10_takeClause_25, eX10_takeClause_26, eX10_takeClause_28, eX10_takeClause_31, eX10_takeClause_32, eX10_takeClause_36, eX10_takeClause_37, eX10_takeClause_38, eX10_takeClause_41, eX10_takeClause_42, eX10_takeClause_45, eX10_takeClause_46, eX10_takeClause_49, eX10_takeClause_50, eX10_takeClause_51, eX10_takeClause_54, eX10_takeClause_55, eX10_takeClause_56, eX10_takeClause_57, eX10_takeClause_60, fx0, fx1, fx2, fx3, fx4, nl_int, nl_ref, nl_none, nl_ti, rz_nil, rz_int, rz_ref, rz_long, cf1, cf2, Option.toList_some, Option.toList_none, List.cons_append, List.nil_append, e6, if_true, if_false, q1, q2, q3, q4, i4, true_and, k0, nz, e3, h4]
          refine aC.of m_fails ?_
          simp only [eX10_takeClause_63, fx0, fx1, fx2, fx3, fx4, nl_int, nl_ref, nl_none, nl_ti, rz_nil, rz_int, rz_ref, rz_long, cf1, cf2, Option.toList_some, Option.toList_none, List.cons_append, List.nil_append]
          exact bad 1 ew (by decide)
        · by_cases e4 : s < 8
          · have ew : wdF x hh w s = 0 := by unfold wdF; rw [if_neg e1, if_neg e3, if_neg e2, if_pos e6, if_pos e4]
            have e5 : ¬ s = 8 := by omega
            rw [ew, if_pos rfl, if_neg e1, if_neg e1, if_neg e2, if_neg e2] at hP
            simp only [eX10_takeClause_4, eX10_takeClause_5, eX10_takeClause_6, eX10_takeClause_8, eX10_takeClause_15, eX10_takeClause_16, eX10_takeClause_18, eX10_takeClause_25, eX10_takeClause_26, eX10_takeClause_28, eX10_takeClause_31, eX10_takeClause_32, eX10_takeClause_36, eX10_takeClause_37, eX10_takeClause_38, eX10_takeClause_41, eX10_takeClause_42, eX10_takeClause_45, eX10_takeClause_46, eX10_takeClause_49, eX10_takeClause_50, eX10_takeClause_51, eX10_takeClause_64, eX10_takeClause_65, eX10_takeClause_85, eX10_takeClause_86, eX10_takeClause_87, eX10_takeClause_107, eX10_takeClause_108, eX10_takeClause_111, eX10_takeClause_113, eX10_takeClause_120, eX10_takeClause_121, eX10_takeClause_122, eX10_takeClause_123, eX10_takeClause_136, eX10_takeClause_137, eX10_takeClause_138, eX10_takeClause_141, eX10_takeClause_142, eX10_takeClause_143, eX10_takeClause_146, eX10_takeClause_147, eX10_takeClause_157, eX10_takeClause_158, eX10_takeClause_159, eX10_takeClause_169, eX10_takeClause_170, fx0, fx1, fx2, fx3, fx4, nl_int, nl_ref, nl_none, nl_ti, rz_nil, rz_int, rz_ref, rz_long, cf1, cf2, Option.toList_some, Option.toList_none, List.cons_append, List.nil_append, e6, if_true, if_false, q1, q2, q3, q4, i4, true_and, k0, nz, e3, k3, n8, e5, h4, nI_1]
            refine m_sleeperT (w := w) (s := s) hn u0 rfl m0.2.1.1 d2 m0.2.1.2 e4 rfl (fun τ r f1 f2 f3 f4 v => ?_)
            rw [y0] at r v
            have y1 : τ 115 = σ 115 := by rw [f1 115 (by decide) (by decide)]; exact y0
            refine m_tail (t := rd (σ 115) n 0 (nI (2 ^ w - 1)) (p0 + 1, 0, w0)) hn r (fun τ' v1 v2 v3 v4 => ?_)
            rw [y1] at v1 v2 ⊢
            refine hP τ' v1 v2 ?_ (fun c => ?_)
            · refine f0.tr ⟨fun a ha hb => ?_, fun k a1 a2 a3 a4 a5 a6 => ?_⟩
              · rw [v3 a ha, f1 a ha (by omega)]
              · rw [v4 k a1 a2, f2 k a1 a2 a3 a4 a6]
            · have g0 := v (rdE_0 c)
              unfold sD MD
              dsimp only
              refine ⟨fun k hk => ?_, ⟨?_, ?_⟩, fun p hp => ?_, fun q hq => ?_⟩
              · simp only [su_at, su_ne, sr_eq, sr_ne, ne_eq, Nat.reduceEqDiff, not_false_eq_true, not_true_eq_false, if_true, if_false]
                rw [v3 116 (by decide), f1 116 (by decide) (by decide)]
                exact m0.1 k hk
              · rw [v4 19 (by decide) (by decide), f2 19 (by decide) (by decide) (by decide) (by decide) (by decide)]; exact m0.2.1.1
              · rw [v4 24 (by decide) (by decide)]; exact f3
              · simp only [su_at, su_ne, sr_eq, sr_ne, ne_eq, Nat.reduceEqDiff, not_false_eq_true, not_true_eq_false, if_true, if_false, v3 117 (by decide), v3 118 (by decide), v3 119 (by decide), v3 120 (by decide)]
                rw [f1 117 (by decide) (by decide), f1 118 (by decide) (by decide), f1 119 (by decide) (by decide), f1 120 (by decide) (by decide)]
                exact m0.2.2.1 p hp
              · simp only [su_at, su_ne, sr_eq, sr_ne, ne_eq, Nat.reduceEqDiff, not_false_eq_true, not_true_eq_false, if_true, if_false, v3 121 (by decide)]
                by_cases eq : q = s
                · subst eq
                  simp only [if_true]
                  exact g0
                · simp only [eq, if_false]
                  rw [f4 q eq]
                  exact m0.2.2.2 q (by dsimp only; omega)
          · have ew : wdF x hh w s = 3 := by unfold wdF; rw [if_neg e1, if_neg e3, if_neg e2, if_pos e6, if_neg e4]
            have e5 : s = 8 := by omega
            simp only [eX10_takeClause_4, eX10_takeClause_5, eX10_takeClause_6, eX10_takeClause_8, eX10_takeClause_15, eX10_takeClause_16, eX10_takeClause_18, eX10_takeClause_25, eX10_takeClause_26, eX10_takeClause_28, eX10_takeClause_31, eX10_takeClause_32, eX10_takeClause_36, eX10_takeClause_37, eX10_takeClause_38, eX10_takeClause_41, eX10_takeClause_42, eX10_takeClause_45, eX10_takeClause_46, eX10_takeClause_49, eX10_takeClause_50, eX10_takeClause_51, eX10_takeClause_64, eX10_takeClause_65, eX10_takeClause_85, eX10_takeClause_86, eX10_takeClause_87, eX10_takeClause_107, eX10_takeClause_108, eX10_takeClause_111, eX10_takeClause_113, eX10_takeClause_116, eX10_takeClause_117, eX10_takeClause_121, eX10_takeClause_122, eX10_takeClause_123, eX10_takeClause_126, eX10_takeClause_127, eX10_takeClause_128, eX10_takeClause_129, eX10_takeClause_132, fx0, fx1, fx2, fx3, fx4, nl_int, nl_ref, nl_none, nl_ti, rz_nil, rz_int, rz_ref, rz_long, cf1, cf2, Option.toList_some, Option.toList_none, List.cons_append, List.nil_append, e6, if_true, if_false, q1, q2, q3, q4, i4, true_and, k0, nz, e3, k3, n8, e5, h4]
            refine aC.of m_fails ?_
            simp only [eX10_takeClause_135, fx0, fx1, fx2, fx3, fx4, nl_int, nl_ref, nl_none, nl_ti, rz_nil, rz_int, rz_ref, rz_long, cf1, cf2, Option.toList_some, Option.toList_none, List.cons_append, List.nil_append]
            exact bad 3 ew (by decide)
      · have ew : wdF x hh w s = 1 := by
          unfold wdF
          rw [if_neg e1, if_neg e2, if_neg e6]
          split <;> rfl
        simp only [eX10_takeClause_4, eX10_takeClause_5, eX10_takeClause_6, eX10_takeClause_8, eX10_takeClause_15, eX10_takeClause_16, eX10_takeClause_18, eX10_takeClause_25, eX10_takeClause_26, eX10_takeClause_28, eX10_takeClause_35, eX10_takeClause_36, eX10_takeClause_37, eX10_takeClause_38, eX10_takeClause_54, eX10_takeClause_55, eX10_takeClause_56, eX10_takeClause_57, eX10_takeClause_60, fx0, fx1, fx2, fx3, fx4, nl_int, nl_ref, nl_none, nl_ti, rz_nil, rz_int, rz_ref, rz_long, cf1, cf2, Option.toList_some, Option.toList_none, List.cons_append, List.nil_append, e1, e2, e6, if_true, if_false, q1, h4]
        refine aC.of m_fails ?_
        simp only [eX10_takeClause_63, fx0, fx1, fx2, fx3, fx4, nl_int, nl_ref, nl_none, nl_ti, rz_nil, rz_int, rz_ref, rz_long, cf1, cf2, Option.toList_some, Option.toList_none, List.cons_append, List.nil_append]
        exact bad 1 ew (by decide)
theorem m_loopT {n : Nat} {Q : Option Value → aW → Prop} (hn : n ≤ 220) : ∀ f p (D : dT) (t : rS) (σ : aW), (n ≤ t.1 + f ∨ ¬ t.2.1 = 0) → σ 109 13 = nI n → σ 109 14 = t.2.2 → (∀ j, j < n → bd 255 (σ 115 j)) → (t.2.1 = 0 → (σ 109 15 = nI p ∧ p ≤ n ∧ sk (σ 115) n p = t.1) ∧ MD σ D ∧ DOK D) →
    (∀ τ, τ 109 14 = (rdT (σ 115) n f D t).2.2.2 → FT σ τ → ((rdT (σ 115) n f D t).2.2.1 = 0 → MD τ (rdT (σ 115) n f D t).1) → aE l (d + 5) none 10 cX10_contract (some .int) Q 61 [some (.ref 109), some (.int (rdT (σ 115) n f D t).2.2.1)] [] τ) →
    aE l (d + 5) none 10 cX10_contract (some .int) Q 42 [some (.ref 109), some (.int t.2.1)] [] σ := by
  intro f
  have m1 : (-1 : Int32) < 0 := by decide
  induction f with
  | zero =>
    intro p D t σ hm h1 h2 hb hC hE
    rw [rdT_0] at hE
    rw [eX10_contract_42]
    by_cases ec : t.2.1 = 0
    · obtain ⟨⟨h4, hp, hs⟩, hM, hD⟩ := hC ec
      simp only [eX10_contract_43, eX10_contract_46, eX10_contract_47, fx0, fx1, fx2, fx3, fx4, nl_int, nl_ref, nl_none, nl_ti, rz_nil, rz_int, rz_ref, rz_long, cf1, cf2, Option.toList_some, Option.toList_none, List.cons_append, List.nil_append, ec, if_true]
      refine aC.of (m_here h1 hn h4 hp) ?_
      have hr : hrF (σ 115) n (sk (σ 115) n p) = -1 := by
        rw [hs]
        refine if_neg ?_
        rcases hm with c | c
        · omega
        · exact absurd ec c
      rw [hr]
      simp only [eX10_contract_50, fx0, fx1, fx2, fx3, fx4, nl_int, nl_ref, nl_none, nl_ti, rz_nil, rz_int, rz_ref, rz_long, cf1, cf2, Option.toList_some, Option.toList_none, List.cons_append, List.nil_append, m1, if_true]
      have := hE (su σ 109 15 (nI (sk (σ 115) n p))) (by rw [su_at, if_neg (by decide)]; exact h2) ((FT.rf σ).p15 _) (fun _ => hM.p1 (fun a ha => su_ne ha) (fun k _ k2 => by rw [su_at, if_neg k2]))
      dsimp only at this
      rw [ec] at this
      exact this
    · simp only [eX10_contract_43, fx0, fx1, fx2, fx3, fx4, nl_int, nl_ref, nl_none, nl_ti, rz_nil, rz_int, rz_ref, rz_long, cf1, cf2, Option.toList_some, Option.toList_none, List.cons_append, List.nil_append, ec, if_false]
      exact hE σ h2 (FT.rf σ) (fun c => absurd c ec)
  | succ f ih =>
    intro p D t σ hm h1 h2 hb hC hE
    rw [rdT_s] at hE
    rw [eX10_contract_42]
    by_cases ec : t.2.1 = 0
    · obtain ⟨⟨h4, hp, hs⟩, hM, hD⟩ := hC ec
      simp only [eX10_contract_43, eX10_contract_46, eX10_contract_47, fx0, fx1, fx2, fx3, fx4, nl_int, nl_ref, nl_none, nl_ti, rz_nil, rz_int, rz_ref, rz_long, cf1, cf2, Option.toList_some, Option.toList_none, List.cons_append, List.nil_append, ec, if_true]
      refine aC.of (m_here h1 hn h4 hp) ?_
      rw [hs]
      have hM1 : MD (su σ 109 15 (nI t.1)) D := hM.p1 (fun a ha => su_ne ha) (fun k _ k2 => by rw [su_at, if_neg k2])
      have y0 : (su σ 109 15 (nI t.1)) 115 = σ 115 := su_ne (by decide)
      have htn : t.1 ≤ n := by rw [← hs]; exact (sk_le hp).2
      by_cases ep : t.1 < n
      · rw [if_pos ⟨ep, ec⟩] at hE
        have hr : hrF (σ 115) n t.1 = σ 115 t.1 := if_pos ep
        have hr0 : ¬ σ 115 t.1 < 0 := by
          obtain ⟨b, b1, b2⟩ := hb t.1 ep
          rw [b2]
          exact nI_pos (by omega)
        rw [hr]
        simp only [eX10_contract_50, eX10_contract_53, eX10_contract_54, fx0, fx1, fx2, fx3, fx4, nl_int, nl_ref, nl_none, nl_ti, rz_nil, rz_int, rz_ref, rz_long, cf1, cf2, Option.toList_some, Option.toList_none, List.cons_append, List.nil_append, hr0, if_false]
        refine m_clause hn (t := t) (D := D) ⟨by rw [su_at, if_neg (by decide)]; exact h1, by rw [su_at, if_pos rfl], htn, by rw [su_at, if_neg (by decide)]; exact h2⟩ ep (by rw [y0, ← hs]; exact sk_sk hp) hM1 hD (fun τ v1 v2 v3 v4 => ?_)
        rw [y0] at v1 v2 v4 ⊢
        have y1 : τ 115 = σ 115 := by rw [v3.1 115 (by decide) (by decide)]; exact y0
        obtain ⟨g1, g2⟩ := clT_le (tx := σ 115) (D := D) ep
        simp only [eX10_contract_57, eX10_contract_58, fx0, fx1, fx2, fx3, fx4, nl_int, nl_ref, nl_none, nl_ti, rz_nil, rz_int, rz_ref, rz_long, cf1, cf2, Option.toList_some, Option.toList_none, List.cons_append, List.nil_append]
        refine ih (clT (σ 115) n D t).1 (clD (σ 115) n D t) (sk (σ 115) n (clT (σ 115) n D t).1, (clT (σ 115) n D t).2) τ ?_ ?_ v2 ?_ (fun c => ⟨⟨v1 c, g1, by rw [y1]⟩, v4 c, hD.step c⟩) ?_
        · by_cases ec2 : (clT (σ 115) n D t).2.1 = 0
          · left
            have g3 := g2 ec2
            have g4 := (sk_le (tx := σ 115) g1).1
            have hm2 : n ≤ t.1 + (f + 1) := by
              rcases hm with c | c
              · exact c
              · exact absurd ec c
            show n ≤ sk (σ 115) n (clT (σ 115) n D t).1 + f
            omega
          · exact Or.inr ec2
        · rw [v3.2 13 (by decide) (by decide) (by decide) (by decide) (by decide) (by decide), su_at, if_neg (by decide)]; exact h1
        · rw [y1]; exact hb
        · rw [y1]
          intro ρ r1 r2 r3
          exact hE ρ r1 (((FT.rf σ).p15 _).tr (v3.tr r2)) r3
      · rw [if_neg (fun c => ep c.1)] at hE
        have hr : hrF (σ 115) n t.1 = -1 := if_neg ep
        rw [hr]
        simp only [eX10_contract_50, fx0, fx1, fx2, fx3, fx4, nl_int, nl_ref, nl_none, nl_ti, rz_nil, rz_int, rz_ref, rz_long, cf1, cf2, Option.toList_some, Option.toList_none, List.cons_append, List.nil_append, m1, if_true]
        have := hE (su σ 109 15 (nI t.1)) (by rw [su_at, if_neg (by decide)]; exact h2) ((FT.rf σ).p15 _) (fun _ => hM1)
        dsimp only at this
        rw [ec] at this
        exact this
    · rw [if_neg (fun c => ec c.2)] at hE
      simp only [eX10_contract_43, fx0, fx1, fx2, fx3, fx4, nl_int, nl_ref, nl_none, nl_ti, rz_nil, rz_int, rz_ref, rz_long, cf1, cf2, Option.toList_some, Option.toList_none, List.cons_append, List.nil_append, ec, if_false]
      exact hE σ h2 (FT.rf σ) (fun c => absurd c ec)
end MT
