/-! a clause and the whole text: the class -/
/-- the draft's cells of the class -/
def CD (σ : aW) (D : dT) : Prop := (∀ k, k < 4 → σ 2 k = D.1 2 k) ∧ (σ 2 4 = nI D.2.2.1 ∧ σ 2 5 = nI D.2.2.2) ∧ (∀ p, p < D.2.2.1 → σ 3 p = D.1 3 p ∧ σ 4 p = D.1 4 p ∧ σ 5 p = D.1 5 p ∧ σ 6 p = D.1 6 p) ∧ ∀ q, q < D.2.2.2 → σ 7 q = D.1 7 q
def FC (τ τ' : aW) : Prop := (∀ a, a = 0 ∨ 8 ≤ a → τ' a = τ a) ∧ ∀ k, k ≠ 2 → k ≠ 4 → k ≠ 5 → τ' 1 k = τ 1 k
theorem FC.rf (τ : aW) : FC τ τ := ⟨fun _ _ => rfl, fun _ _ _ _ => rfl⟩
theorem FC.tr {a b c : aW} (h : FC a b) (h' : FC b c) : FC a c := ⟨fun x hx => (h'.1 x hx).trans (h.1 x hx), fun k k2 k4 k5 => (h'.2 k k2 k4 k5).trans (h.2 k k2 k4 k5)⟩
theorem FC.p4 {τ τ' : aW} (h : FC τ τ') (v : Int32) : FC τ (su τ' 1 4 v) := ⟨fun a ha => by rw [su_ne (by omega)]; exact h.1 a ha, fun k k2 k4 k5 => by rw [su_at, if_neg k4]; exact h.2 k k2 k4 k5⟩
theorem CD.p1 {σ τ : aW} {D : dT} (h : CD σ D) (e : ∀ a, 2 ≤ a → a ≤ 7 → τ a = σ a) : CD τ D := by
  unfold CD
  rw [e 2 (by decide) (by decide), e 3 (by decide) (by decide), e 4 (by decide) (by decide), e 5 (by decide) (by decide), e 6 (by decide) (by decide), e 7 (by decide) (by decide)]
  exact h
theorem CD.night {σ τ : aW} {D : dT} {a b c e : Int32} {h : Nat} (hD : CD σ D) (e2 : τ 2 0 = a ∧ τ 2 1 = b ∧ τ 2 2 = c ∧ τ 2 3 = e ∧ ∀ k, 4 ≤ k → τ 2 k = σ 2 k) (eo : ∀ a, 3 ≤ a → a ≤ 7 → τ a = σ a) : CD τ (su (su (su (su D.1 2 0 a) 2 1 b) 2 2 c) 2 3 e, h, D.2.2.1, D.2.2.2) := by
  obtain ⟨δ, hh, w, s⟩ := D
  obtain ⟨h1, ⟨h2, h3⟩, h4, h5⟩ := hD
  obtain ⟨g0, g1, g2, g3, g4⟩ := e2
  dsimp only at h1 h2 h3 h4 h5 ⊢
  refine ⟨fun k hk => ?_, ⟨by rw [g4 4 (by decide)]; exact h2, by rw [g4 5 (by decide)]; exact h3⟩, fun p hp => ?_, fun q hq => ?_⟩
  · dsimp only
    simp only [su_at]
    rcases (show k = 0 ∨ k = 1 ∨ k = 2 ∨ k = 3 by omega) with rfl | rfl | rfl | rfl
    · simpa using g0
    · simpa using g1
    · simpa using g2
    · simpa using g3
  · dsimp only at hp ⊢
    simp only [su_ne (show (3 : Nat) ≠ 2 by decide), su_ne (show (4 : Nat) ≠ 2 by decide), su_ne (show (5 : Nat) ≠ 2 by decide), su_ne (show (6 : Nat) ≠ 2 by decide), eo 3 (by decide) (by decide), eo 4 (by decide) (by decide), eo 5 (by decide) (by decide), eo 6 (by decide) (by decide)]
    exact h4 p hp
  · dsimp only at hq ⊢
    simp only [su_ne (show (7 : Nat) ≠ 2 by decide), eo 7 (by decide) (by decide)]
    exact h5 q hq
theorem CD.watch {σ τ : aW} {D : dT} {a b c e : Int32} (hD : CD σ D) (eo : ∀ a, 2 ≤ a → a ≤ 7 → τ a = σ a) : CD (su (su (su (su (su τ 3 D.2.2.1 a) 4 D.2.2.1 b) 5 D.2.2.1 c) 6 D.2.2.1 e) 2 4 (nI (D.2.2.1 + 1))) (su (su (su (su D.1 3 D.2.2.1 a) 4 D.2.2.1 b) 5 D.2.2.1 c) 6 D.2.2.1 e, D.2.1, D.2.2.1 + 1, D.2.2.2) := by
  obtain ⟨δ, hh, w, s⟩ := D
  obtain ⟨h1, ⟨h2, h3⟩, h4, h5⟩ := hD
  dsimp only at h1 h2 h3 h4 h5 ⊢
  refine ⟨fun k hk => ?_, ⟨?_, ?_⟩, fun p hp => ?_, fun q hq => ?_⟩
  · dsimp only
    simp only [su_at, su_ne, sr_eq, sr_ne, ne_eq, Nat.reduceEqDiff, not_false_eq_true, not_true_eq_false, if_true, if_false, show ¬ k = 4 by omega, eo 2 (by decide) (by decide)]
    exact h1 k hk
  · dsimp only
    simp only [su_at, su_ne, sr_eq, sr_ne, ne_eq, Nat.reduceEqDiff, not_false_eq_true, not_true_eq_false, if_true, if_false]
  · dsimp only
    simp only [su_at, su_ne, sr_eq, sr_ne, ne_eq, Nat.reduceEqDiff, not_false_eq_true, not_true_eq_false, if_true, if_false, eo 2 (by decide) (by decide)]
    exact h3
  · dsimp only at hp ⊢
    simp only [su_at, su_ne, sr_eq, sr_ne, ne_eq, Nat.reduceEqDiff, not_false_eq_true, not_true_eq_false, if_true, if_false, eo 3 (by decide) (by decide), eo 4 (by decide) (by decide), eo 5 (by decide) (by decide), eo 6 (by decide) (by decide)]
    by_cases ep : p = w
    · simp only [ep, if_true, and_self]
    · simp only [ep, if_false]
      exact h4 p (by omega)
  · dsimp only at hq ⊢
    simp only [su_at, su_ne, sr_eq, sr_ne, ne_eq, Nat.reduceEqDiff, not_false_eq_true, not_true_eq_false, if_true, if_false, eo 7 (by decide) (by decide)]
    exact h5 q hq
theorem CD.sleep {σ τ : aW} {D : dT} {a : Int32} (hD : CD σ D) (eo : ∀ a, 2 ≤ a → a ≤ 7 → τ a = σ a) : CD (su (su τ 7 D.2.2.2 a) 2 5 (nI (D.2.2.2 + 1))) (su D.1 7 D.2.2.2 a, D.2.1, D.2.2.1, D.2.2.2 + 1) := by
  obtain ⟨δ, hh, w, s⟩ := D
  obtain ⟨h1, ⟨h2, h3⟩, h4, h5⟩ := hD
  dsimp only at h1 h2 h3 h4 h5 ⊢
  refine ⟨fun k hk => ?_, ⟨?_, ?_⟩, fun p hp => ?_, fun q hq => ?_⟩
  · dsimp only
    simp only [su_at, su_ne, sr_eq, sr_ne, ne_eq, Nat.reduceEqDiff, not_false_eq_true, not_true_eq_false, if_true, if_false, show ¬ k = 5 by omega, eo 2 (by decide) (by decide)]
    exact h1 k hk
  · dsimp only
    simp only [su_at, su_ne, sr_eq, sr_ne, ne_eq, Nat.reduceEqDiff, not_false_eq_true, not_true_eq_false, if_true, if_false, eo 2 (by decide) (by decide)]
    exact h2
  · dsimp only
    simp only [su_at, su_ne, sr_eq, sr_ne, ne_eq, Nat.reduceEqDiff, not_false_eq_true, not_true_eq_false, if_true, if_false]
  · dsimp only at hp ⊢
    simp only [su_at, su_ne, sr_eq, sr_ne, ne_eq, Nat.reduceEqDiff, not_false_eq_true, not_true_eq_false, if_true, if_false, eo 3 (by decide) (by decide), eo 4 (by decide) (by decide), eo 5 (by decide) (by decide), eo 6 (by decide) (by decide)]
    exact h4 p hp
  · dsimp only at hq ⊢
    simp only [su_at, su_ne, sr_eq, sr_ne, ne_eq, Nat.reduceEqDiff, not_false_eq_true, not_true_eq_false, if_true, if_false, eo 7 (by decide) (by decide)]
    by_cases eq : q = s
    · simp only [eq, if_true]
    · simp only [eq, if_false]
      exact h5 q (by omega)
theorem RS.same {n : Nat} {τ τ' : aW} {t : rS} (h : RS n τ t) (e : τ' 1 = τ 1) : RS n τ' t := by
  unfold RS
  rw [e]
  exact h
section CC
variable {l : Launch} {d : Nat} {σ : aW}
theorem c_clause {n : Nat} {t : rS} {D : dT} {P : Option Value → aW → Prop} (hn : n ≤ 220) (h : RS n σ t) (hp : t.1 < n) (ht : t.2.1 = 0) (hC : CD σ D) (hD : DOK D)
    (hP : ∀ τ, RS n τ (clT (σ 8) n D t) → FC σ τ → ((clT (σ 8) n D t).2.1 = 0 → CD τ (clD (σ 8) n D t)) → P none τ) : aC l (d + 5) 25 [.ref 1] σ P := by
  obtain ⟨p0, c0, w0⟩ := t
  obtain ⟨δ, hh, w, s⟩ := D
  obtain ⟨h1, h4, hp', h5, h2⟩ := h
  dsimp only at h1 h4 hp hp' h5 h2 ht
  subst ht
  have hC0 := hC
  obtain ⟨k1, ⟨k2, k3⟩, k4, k5⟩ := hC
  obtain ⟨⟨d1, d2, d3⟩, d4, ⟨d5, d6⟩, d7, d8⟩ := hD
  dsimp only at k1 k2 k3 k4 k5 d1 d2 d3 d4 d5 d6 d7 d8
  refine aC_of rfl (Nat.le_of_ble_eq_true rfl) ?_
  show aE l (d + 4) none 5 cX5_readClause none _ 0 [some (.ref 1), none, none] [] σ
  simp only [eX5_readClause_0, eX5_readClause_1, fx0, fx1, fx2, fx3, fx4, nl_int, nl_ref, nl_none, nl_ti, rz_nil, rz_int, rz_ref, rz_long, cf1, cf2, Option.toList_some, Option.toList_none, List.cons_append, List.nil_append]
  refine aC.of (c_letterHere h1 hn h4 hp') ?_
  simp only [eX5_readClause_4, eX5_readClause_5, eX5_readClause_6, eX5_readClause_7, fx0, fx1, fx2, fx3, fx4, nl_int, nl_ref, nl_none, nl_ti, rz_nil, rz_int, rz_ref, rz_long, cf1, cf2, Option.toList_some, Option.toList_none, List.cons_append, List.nil_append]
  refine aC.of (c_faultOfWord (h := hh) (w := w) (s := s) (by rw [k1 0 (by decide)]; exact d5) d1 k2 d2 k3 d3) ?_
  unfold clT clD at hP
  dsimp only at hP
  by_cases e : wdF (hrF (σ 8) n p0) hh w s = 0
  · rw [if_pos e] at hP
    have u0 : RS n (su σ 1 4 (nI (p0 + 1))) (p0 + 1, 0, w0) := by
      refine ⟨?_, ?_, hp, ?_, ?_⟩
      · rw [su_at, if_neg (by decide)]; exact h1
      · rw [su_at, if_pos rfl]
      · rw [su_at, if_neg (by decide)]; exact h5
      · rw [su_at, if_neg (by decide)]; exact h2
    have y0 : (su σ 1 4 (nI (p0 + 1))) 8 = σ 8 := su_ne (by decide)
    have f0 : FC σ (su σ 1 4 (nI (p0 + 1))) := (FC.rf σ).p4 _
    have o0 : ∀ a, 2 ≤ a → a ≤ 7 → (su σ 1 4 (nI (p0 + 1))) a = σ a := fun a a1 a2 => su_ne (by omega)
    rcases wdF_0 e with ⟨e1, e2⟩ | ⟨e1, e2, e3, e4⟩ | ⟨e1, e2, e3, e4, e5⟩
    · rw [if_pos e1, if_pos e1] at hP
      rw [e]
      simp only [eX5_readClause_10, eX5_readClause_11, eX5_readClause_12, eX5_readClause_25, eX5_readClause_26, eX5_readClause_27, eX5_readClause_30, eX5_readClause_31, eX5_readClause_32, eX5_readClause_35, eX5_readClause_36, eX5_readClause_38, eX5_readClause_41, eX5_readClause_42, fx0, fx1, fx2, fx3, fx4, nl_int, nl_ref, nl_none, nl_ti, rz_nil, rz_int, rz_ref, rz_long, cf1, cf2, Option.toList_some, Option.toList_none, List.cons_append, List.nil_append, if_true, h4, nI_1, e1]
      refine c_night hn u0 rfl rfl rfl rfl (fun τ r f v => ?_)
      rw [y0] at r v
      simp only [eX5_readClause_45, eX5_readClause_48, eX5_readClause_49, eX5_readClause_51, eX5_readClause_54, eX5_readClause_55, eX5_readClause_58, eX5_readClause_61, eX5_readClause_62, eX5_readClause_65, fx0, fx1, fx2, fx3, fx4, nl_int, nl_ref, nl_none, nl_ti, rz_nil, rz_int, rz_ref, rz_long, cf1, cf2, Option.toList_some, Option.toList_none, List.cons_append, List.nil_append]
      refine hP τ r ?_ (fun _ => ?_)
      · refine f0.tr ⟨fun a ha => f.1 a (by omega) (by omega), f.2⟩
      · refine CD.night (hC0.p1 o0) v (fun a a1 a2 => f.1 a (by omega) (by omega))
    · rw [if_neg e1, if_neg e1, if_pos e2, if_pos e2] at hP
      have n1 : ¬ (112 : Int32) = 107 := by decide
      rw [e]
      simp only [eX5_readClause_10, eX5_readClause_11, eX5_readClause_12, eX5_readClause_25, eX5_readClause_26, eX5_readClause_27, eX5_readClause_30, eX5_readClause_31, eX5_readClause_32, eX5_readClause_35, eX5_readClause_36, eX5_readClause_38, eX5_readClause_48, eX5_readClause_49, eX5_readClause_51, eX5_readClause_54, eX5_readClause_55, fx0, fx1, fx2, fx3, fx4, nl_int, nl_ref, nl_none, nl_ti, rz_nil, rz_int, rz_ref, rz_long, cf1, cf2, Option.toList_some, Option.toList_none, List.cons_append, List.nil_append, if_true, h4, nI_1, e2, n1, if_false]
      refine c_watcher (w := w) hn u0 (by rw [su_ne (by decide)]; exact k2) e4 rfl rfl rfl rfl (fun τ τ' r f v => ?_)
      rw [y0] at r v
      simp only [eX5_readClause_58, eX5_readClause_61, eX5_readClause_62, eX5_readClause_65, fx0, fx1, fx2, fx3, fx4, nl_int, nl_ref, nl_none, nl_ti, rz_nil, rz_int, rz_ref, rz_long, cf1, cf2, Option.toList_some, Option.toList_none, List.cons_append, List.nil_append]
      have o1 : ∀ a, 2 ≤ a → a ≤ 7 → τ a = σ a := fun a a1 a2 => by rw [f.1 a (by omega)]; exact o0 a a1 a2
      refine hP τ' ?_ ?_ (fun _ => ?_)
      · exact r.same (by rw [v, su_ne (by decide), su_ne (by decide), su_ne (by decide), su_ne (by decide), su_ne (by decide)])
      · rw [v]
        refine f0.tr ⟨fun a ha => ?_, fun k k2 k4 k5 => ?_⟩
        · rw [su_ne (by omega), su_ne (by omega), su_ne (by omega), su_ne (by omega), su_ne (by omega)]
          exact f.1 a (by omega)
        · rw [su_ne (by decide), su_ne (by decide), su_ne (by decide), su_ne (by decide), su_ne (by decide)]
          exact f.2 k k2 k4 k5
      · rw [v]
        exact CD.watch (D := (δ, hh, w, s)) hC0 o1
    · rw [if_neg e1, if_neg e1, if_neg e2, if_neg e2] at hP
      have n1 : ¬ (115 : Int32) = 107 := by decide
      have n2 : ¬ (115 : Int32) = 112 := by decide
      rw [e]
      simp only [eX5_readClause_10, eX5_readClause_11, eX5_readClause_12, eX5_readClause_25, eX5_readClause_26, eX5_readClause_27, eX5_readClause_30, eX5_readClause_31, eX5_readClause_32, eX5_readClause_35, eX5_readClause_36, eX5_readClause_38, eX5_readClause_48, eX5_readClause_49, eX5_readClause_51, eX5_readClause_61, eX5_readClause_62, fx0, fx1, fx2, fx3, fx4, nl_int, nl_ref, nl_none, nl_ti, rz_nil, rz_int, rz_ref, rz_long, cf1, cf2, Option.toList_some, Option.toList_none, List.cons_append, List.nil_append, if_true, h4, nI_1, e3, n1, n2, if_false]
      refine c_sleeper (w := w) (s := s) hn u0 (by rw [su_ne (by decide)]; exact k2) d2 (by rw [su_ne (by decide)]; exact k3) e5 rfl (fun τ τ' r f v => ?_)
      rw [y0] at r v
      simp only [eX5_readClause_65, fx0, fx1, fx2, fx3, fx4, nl_int, nl_ref, nl_none, nl_ti, rz_nil, rz_int, rz_ref, rz_long, cf1, cf2, Option.toList_some, Option.toList_none, List.cons_append, List.nil_append]
      have o1 : ∀ a, 2 ≤ a → a ≤ 7 → τ a = σ a := fun a a1 a2 => by rw [f.1 a (by omega)]; exact o0 a a1 a2
      refine hP τ' ?_ ?_ (fun _ => ?_)
      · exact r.same (by rw [v, su_ne (by decide), su_ne (by decide)])
      · rw [v]
        refine f0.tr ⟨fun a ha => ?_, fun k k2 k4 k5 => ?_⟩
        · rw [su_ne (by omega), su_ne (by omega)]
          exact f.1 a (by omega)
        · rw [su_ne (by decide), su_ne (by decide)]
          exact f.2 k k2 k4 k5
      · rw [v]
        exact CD.sleep (D := (δ, hh, w, s)) hC0 o1
  · rw [if_neg e] at hP
    simp only [eX5_readClause_10, eX5_readClause_11, eX5_readClause_12, eX5_readClause_15, eX5_readClause_16, eX5_readClause_17, eX5_readClause_18, eX5_readClause_21, fx0, fx1, fx2, fx3, fx4, nl_int, nl_ref, nl_none, nl_ti, rz_nil, rz_int, rz_ref, rz_long, cf1, cf2, Option.toList_some, Option.toList_none, List.cons_append, List.nil_append, e, if_false, h4]
    refine aC.of c_blame ?_
    simp only [eX5_readClause_24, fx0, fx1, fx2, fx3, fx4, nl_int, nl_ref, nl_none, nl_ti, rz_nil, rz_int, rz_ref, rz_long, cf1, cf2, Option.toList_some, Option.toList_none, List.cons_append, List.nil_append]
    refine hP _ ⟨?_, ?_, hp', ?_, ?_⟩ ⟨fun a ha => ?_, fun k k2 k4 k5 => ?_⟩ (fun c => absurd c e)
    · rw [su_at, if_neg (by decide), su_at, if_neg (by decide)]; exact h1
    · rw [su_at, if_neg (by decide), su_at, if_neg (by decide)]; exact h4
    · rw [su_at, if_neg (by decide), su_at, if_pos rfl]
    · rw [su_at, if_pos rfl]
    · rw [su_ne (by omega), su_ne (by omega)]
    · rw [su_at, if_neg k2, su_at, if_neg k5]
theorem c_loopT {n : Nat} {Q : Option Value → aW → Prop} (hn : n ≤ 220) : ∀ f k (D : dT) (t : rS) (σ : aW), (n ≤ t.1 + f ∨ ¬ t.2.1 = 0) → (t.2.1 = 0 → k ≤ t.1) → k ≤ 220 → RS n σ t → (t.2.1 = 0 → CD σ D ∧ DOK D) →
    (∀ τ k', RS n τ (rdT (σ 8) n f D t).2 → FC σ τ → ((rdT (σ 8) n f D t).2.2.1 = 0 → CD τ (rdT (σ 8) n f D t).1) → aE l (d + 5) none 5 cX5_readText (some .int) Q 67 [some (.ref 1), some (.int (nI k'))] [] τ) →
    aE l (d + 5) none 5 cX5_readText (some .int) Q 28 [some (.ref 1), some (.int (nI k))] [] σ := by
  intro f
  have stop : ∀ k (D : dT) (t : rS) (σ : aW), (n ≤ t.1 ∨ ¬ t.2.1 = 0) → k ≤ 220 → RS n σ t → aE l (d + 5) none 5 cX5_readText (some .int) Q 67 [some (.ref 1), some (.int (nI k))] [] σ → aE l (d + 5) none 5 cX5_readText (some .int) Q 28 [some (.ref 1), some (.int (nI k))] [] σ := by
    intro k D t σ hs hk h hE
    obtain ⟨h1, h4, hp, h5, h2⟩ := h
    rw [eX5_readText_28]
    by_cases ek : (220 : Int32) ≤ nI k
    · simp only [eX5_readText_29, eX5_readText_32, fx0, fx1, fx2, fx3, fx4, nl_int, nl_ref, nl_none, nl_ti, rz_nil, rz_int, rz_ref, rz_long, cf1, cf2, Option.toList_some, Option.toList_none, List.cons_append, List.nil_append, ek, if_true]
      exact hE
    · by_cases ep : nI n ≤ nI t.1
      · simp only [eX5_readText_29, eX5_readText_32, eX5_readText_35, eX5_readText_36, eX5_readText_39, eX5_readText_40, eX5_readText_43, fx0, fx1, fx2, fx3, fx4, nl_int, nl_ref, nl_none, nl_ti, rz_nil, rz_int, rz_ref, rz_long, cf1, cf2, Option.toList_some, Option.toList_none, List.cons_append, List.nil_append, ek, if_false, h1, h4, ep, if_true]
        exact hE
      · have ec : ¬ t.2.1 = 0 := by
          rcases hs with c | c
          · rw [nile (by omega) (by omega)] at ep
            exact absurd c ep
          · exact c
        simp only [eX5_readText_29, eX5_readText_32, eX5_readText_35, eX5_readText_36, eX5_readText_39, eX5_readText_40, eX5_readText_43, eX5_readText_46, eX5_readText_47, eX5_readText_50, fx0, fx1, fx2, fx3, fx4, nl_int, nl_ref, nl_none, nl_ti, rz_nil, rz_int, rz_ref, rz_long, cf1, cf2, Option.toList_some, Option.toList_none, List.cons_append, List.nil_append, ek, if_false, h1, h4, ep, h5, ec]
        exact hE
  induction f with
  | zero =>
    intro k D t σ hm hkt hk h hC hE
    rw [rdT_0] at hE
    refine stop k D t σ (by simpa using hm) hk h (hE σ k h (FC.rf σ) (fun c => (hC c).1))
  | succ f ih =>
    intro k D t σ hm hkt hk h hC hE
    rw [rdT_s] at hE
    by_cases e : t.1 < n ∧ t.2.1 = 0
    · rw [if_pos e] at hE
      obtain ⟨h1, h4, hp, h5, h2⟩ := h
      obtain ⟨c1, c2⟩ := hC e.2
      have hk2 := hkt e.2
      have ek : ¬ (220 : Int32) ≤ nI k := by rw [show (220 : Int32) = nI 220 from rfl, nile (by omega) (by omega)]; omega
      have ep : ¬ nI n ≤ nI t.1 := by rw [nile (by omega) (by omega)]; omega
      rw [eX5_readText_28]
      simp only [eX5_readText_29, eX5_readText_32, eX5_readText_35, eX5_readText_36, eX5_readText_39, eX5_readText_40, eX5_readText_43, eX5_readText_46, eX5_readText_47, eX5_readText_50, eX5_readText_53, eX5_readText_54, fx0, fx1, fx2, fx3, fx4, nl_int, nl_ref, nl_none, nl_ti, rz_nil, rz_int, rz_ref, rz_long, cf1, cf2, Option.toList_some, Option.toList_none, List.cons_append, List.nil_append, ek, if_false, h1, h4, ep, h5, e.2, if_true]
      refine c_clause hn ⟨h1, h4, hp, h5, h2⟩ e.1 e.2 c1 c2 (fun τ r fr v => ?_)
      obtain ⟨g1, g2⟩ := clT_le (tx := σ 8) (D := D) e.1
      simp only [eX5_readText_57, eX5_readText_58, fx0, fx1, fx2, fx3, fx4, nl_int, nl_ref, nl_none, nl_ti, rz_nil, rz_int, rz_ref, rz_long, cf1, cf2, Option.toList_some, Option.toList_none, List.cons_append, List.nil_append]
      obtain ⟨r1, r4, rp, r5, r2⟩ := r
      have x8 : τ 8 = σ 8 := fr.1 8 (by omega)
      refine aC.of (c_skip r1 hn r4 rp) ?_
      rw [x8]
      have z8 : (su τ 1 4 (nI (sk (σ 8) n (clT (σ 8) n D t).1))) 8 = σ 8 := by rw [su_ne (by decide)]; exact x8
      obtain ⟨s1, s2⟩ := sk_le (tx := σ 8) rp
      simp only [eX5_readText_61, eX5_readText_64, fx0, fx1, fx2, fx3, fx4, nl_int, nl_ref, nl_none, nl_ti, rz_nil, rz_int, rz_ref, rz_long, cf1, cf2, Option.toList_some, Option.toList_none, List.cons_append, List.nil_append, nI_1]
      refine ih (k + 1) (clD (σ 8) n D t) (sk (σ 8) n (clT (σ 8) n D t).1, (clT (σ 8) n D t).2) _ ?_ ?_ (by omega) ⟨?_, ?_, s2, ?_, ?_⟩ (fun c => ⟨?_, c2.step c⟩) ?_
      · by_cases ec : (clT (σ 8) n D t).2.1 = 0
        · left
          have := g2 ec
          have hm2 : n ≤ t.1 + (f + 1) := by
            rcases hm with c | c
            · exact c
            · exact absurd e.2 c
          show n ≤ sk (σ 8) n (clT (σ 8) n D t).1 + f
          omega
        · exact Or.inr ec
      · intro ec
        have := g2 ec
        show k + 1 ≤ sk (σ 8) n (clT (σ 8) n D t).1
        omega
      · rw [su_at, if_neg (by decide)]; exact r1
      · rw [su_at, if_pos rfl]
      · rw [su_at, if_neg (by decide)]; exact r5
      · rw [su_at, if_neg (by decide)]; exact r2
      · exact (v c).p1 (fun a a1 a2 => su_ne (by omega))
      · intro ρ k' q1 q2 q3
        rw [z8] at q1 q3
        exact hE ρ k' q1 ((fr.p4 _).tr q2) q3
    · rw [if_neg e] at hE
      refine stop k D t σ ?_ hk h (hE σ k h (FC.rf σ) (fun c => (hC c).1))
      by_cases ep : t.1 < n
      · exact Or.inr (fun c => e ⟨ep, c⟩)
      · exact Or.inl (by omega)
/-- the text, read: (σ 8) from the first place that is no blank -/
def txR (tx : Nat → Int32) (n : Nat) : dT × rS := rdT tx n n (fun _ _ => 0, 0, 0, 0) (sk tx n 0, 0, -1)
theorem DOK.z : DOK (fun _ _ => 0, 0, 0, 0) := ⟨⟨by decide, by decide, by decide⟩, fun _ => ⟨rfl, rfl⟩, ⟨rfl, ⟨0, by decide, rfl⟩⟩, fun p hp => absurd hp (Nat.not_lt_zero p), fun q hq => absurd hq (Nat.not_lt_zero q)⟩
theorem c_readText {n : Nat} {P : Option Value → aW → Prop} (hn : n ≤ 220) (h1 : σ 1 1 = nI n)
    (hP : ∀ τ, τ 1 1 = 0 → τ 1 2 = (txR (σ 8) n).2.2.2 → (∀ a, a = 0 ∨ 8 ≤ a → τ a = σ a) → ((txR (σ 8) n).2.2.1 = 0 → CD τ (txR (σ 8) n).1) → P (some (.int (txR (σ 8) n).2.2.1)) τ) : aC l (d + 6) 24 [.ref 1] σ P := by
  refine aC_of rfl (Nat.le_of_ble_eq_true rfl) ?_
  show aE l (d + 5) none 5 cX5_readText (some .int) _ 0 [some (.ref 1), none] [] σ
  simp only [eX5_readText_0, eX5_readText_1, eX5_readText_4, fx0, fx1, fx2, fx3, fx4, nl_int, nl_ref, nl_none, nl_ti, rz_nil, rz_int, rz_ref, rz_long, cf1, cf2, Option.toList_some, Option.toList_none, List.cons_append, List.nil_append]
  refine aC.of c_clearC ?_
  simp only [eX5_readText_7, eX5_readText_8, eX5_readText_9, eX5_readText_12, eX5_readText_13, eX5_readText_14, eX5_readText_17, eX5_readText_18, eX5_readText_19, eX5_readText_22, eX5_readText_23, fx0, fx1, fx2, fx3, fx4, nl_int, nl_ref, nl_none, nl_ti, rz_nil, rz_int, rz_ref, rz_long, cf1, cf2, Option.toList_some, Option.toList_none, List.cons_append, List.nil_append]
  generalize hρ : su (su (su (su (su (su (su (su (su σ 2 0 0) 2 1 0) 2 2 0) 2 3 0) 2 4 0) 2 5 0) 1 4 0) 1 5 0) 1 2 (-1) = ρ
  have b8 : ρ 8 = σ 8 := by rw [← hρ]; simp only [su_at, su_ne, sr_eq, sr_ne, ne_eq, Nat.reduceEqDiff, not_false_eq_true, not_true_eq_false, if_true, if_false]
  have b0 : ∀ a, a = 0 ∨ 8 ≤ a → ρ a = σ a := fun a ha => by rw [← hρ, su_ne (by omega), su_ne (by omega), su_ne (by omega), su_ne (by omega), su_ne (by omega), su_ne (by omega), su_ne (by omega), su_ne (by omega), su_ne (by omega)]
  have b1 : ρ 1 1 = nI n := by rw [← hρ]; simp only [su_at, su_ne, sr_eq, sr_ne, ne_eq, Nat.reduceEqDiff, not_false_eq_true, not_true_eq_false, if_true, if_false]; exact h1
  have b4 : ρ 1 4 = nI 0 := by rw [← hρ]; simp only [su_at, su_ne, sr_eq, sr_ne, ne_eq, Nat.reduceEqDiff, not_false_eq_true, not_true_eq_false, if_true, if_false]; rfl
  have b5 : ρ 1 5 = 0 := by rw [← hρ]; simp only [su_at, su_ne, sr_eq, sr_ne, ne_eq, Nat.reduceEqDiff, not_false_eq_true, not_true_eq_false, if_true, if_false]
  have b2 : ρ 1 2 = -1 := by rw [← hρ]; simp only [su_at, su_ne, sr_eq, sr_ne, ne_eq, Nat.reduceEqDiff, not_false_eq_true, not_true_eq_false, if_true, if_false]
  have bC : CD ρ (fun _ _ => 0, 0, 0, 0) := by
    refine ⟨fun k hk => ?_, ⟨?_, ?_⟩, fun p hp => absurd hp (Nat.not_lt_zero p), fun q hq => absurd hq (Nat.not_lt_zero q)⟩
    · rcases (show k = 0 ∨ k = 1 ∨ k = 2 ∨ k = 3 by omega) with rfl | rfl | rfl | rfl <;> (rw [← hρ]; simp only [su_at, su_ne, sr_eq, sr_ne, ne_eq, Nat.reduceEqDiff, not_false_eq_true, not_true_eq_false, if_true, if_false])
    · rw [← hρ]; simp only [su_at, su_ne, sr_eq, sr_ne, ne_eq, Nat.reduceEqDiff, not_false_eq_true, not_true_eq_false, if_true, if_false]; rfl
    · rw [← hρ]; simp only [su_at, su_ne, sr_eq, sr_ne, ne_eq, Nat.reduceEqDiff, not_false_eq_true, not_true_eq_false, if_true, if_false]; rfl
  refine aC.of (c_skip b1 hn b4 (Nat.zero_le n)) ?_
  rw [b8]
  obtain ⟨s1, s2⟩ := sk_le (tx := σ 8) (Nat.zero_le n)
  simp only [eX5_readText_26, eX5_readText_27, fx0, fx1, fx2, fx3, fx4, nl_int, nl_ref, nl_none, nl_ti, rz_nil, rz_int, rz_ref, rz_long, cf1, cf2, Option.toList_some, Option.toList_none, List.cons_append, List.nil_append]
  have z8 : (su ρ 1 4 (nI (sk (σ 8) n 0))) 8 = σ 8 := by rw [su_ne (by decide)]; exact b8
  refine c_loopT (d := d) hn n 0 (fun _ _ => 0, 0, 0, 0) (sk (σ 8) n 0, 0, -1) _ (Or.inl (by show n ≤ sk (σ 8) n 0 + n; omega)) (fun _ => Nat.zero_le _) (by decide) ⟨?_, ?_, s2, ?_, ?_⟩ (fun _ => ⟨bC.p1 (fun a a1 a2 => su_ne (by omega)), DOK.z⟩) ?_
  · rw [su_at, if_neg (by decide)]; exact b1
  · rw [su_at, if_pos rfl]
  · rw [su_at, if_neg (by decide)]; exact b5
  · rw [su_at, if_neg (by decide)]; exact b2
  · intro τ k' q1 q2 q3
    rw [z8] at q1 q3
    obtain ⟨g1, g4, gp, g5, g2⟩ := q1
    simp only [eX5_readText_67, eX5_readText_68, eX5_readText_69, eX5_readText_72, eX5_readText_73, eX5_readText_76, fx0, fx1, fx2, fx3, fx4, nl_int, nl_ref, nl_none, nl_ti, rz_nil, rz_int, rz_ref, rz_long, cf1, cf2, Option.toList_some, Option.toList_none, List.cons_append, List.nil_append, su_at, su_ne, sr_eq, sr_ne, ne_eq, Nat.reduceEqDiff, not_false_eq_true, not_true_eq_false, if_true, if_false]
    have e5 : τ 1 5 = (txR (σ 8) n).2.2.1 := g5
    rw [e5]
    refine hP _ ?_ ?_ (fun a ha => ?_) (fun c => ?_)
    · rw [su_at, if_pos rfl]
    · rw [su_at, if_neg (by decide)]; exact g2
    · rw [su_ne (by omega), q2.1 a ha, su_ne (by omega)]; exact b0 a ha
    · exact (q3 c).p1 (fun a a1 a2 => su_ne (by omega))
end CC
