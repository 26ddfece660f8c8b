/-! contract, both sides -/
/-- what the class holds once a contract stands -/
def cOut (σ τ : aW) (D : dT) (wh : Int32) : Prop := (τ 1 1 = 0 ∧ τ 1 2 = wh ∧ ∀ a, a = 90 ∨ 109 ≤ a → τ a = σ a) ∧ ((∀ k, k < 4 → τ 9 k = D.1 2 k) ∧ τ 9 4 = nI D.2.2.1 ∧ τ 9 5 = nI D.2.2.2) ∧ (∀ p, p < D.2.2.1 → τ 16 p = D.1 3 p ∧ τ 11 p = D.1 4 p ∧ τ 12 p = D.1 5 p ∧ τ 13 p = D.1 6 p) ∧ (∀ q, q < D.2.2.2 → τ 14 q = D.1 7 q) ∧ ((∀ k, k < 7 → τ 15 k = 0) ∧ (∀ p, p < 6 → τ 17 p = 0)) ∧ ((τ 18 0 = 0 ∧ τ 18 1 = 0) ∧ (τ 83 0 = 0 ∧ τ 83 1 = 0) ∧ τ 103 0 = 0 ∧ τ 106 0 = 0)
def mOut (σ τ : aW) (D : dT) (wh : Int32) : Prop := (τ 109 13 = 0 ∧ τ 109 14 = wh ∧ τ 109 11 = σ 109 11 ∧ ∀ a, a < 109 → τ a = σ a) ∧ ((∀ k, k < 4 → τ 109 k = D.1 2 k) ∧ τ 109 4 = nI D.2.2.1 ∧ τ 109 8 = nI D.2.2.2) ∧ (∀ p, p < D.2.2.1 → τ 114 p = D.1 3 p ∧ τ 110 p = D.1 4 p ∧ τ 111 p = D.1 5 p ∧ τ 112 p = D.1 6 p) ∧ (∀ q, q < D.2.2.2 → τ 113 q = D.1 7 q) ∧ (∀ k, 6 ≤ k → k < 19 → τ 114 k = 0) ∧ (τ 109 26 = 0 ∧ (τ 131 0 = 0 ∧ τ 131 1 = 0) ∧ τ 109 32 = 0 ∧ τ 109 35 = 0)
section CT
variable {l : Launch} {d : Nat} {σ : aW}
theorem c_contract {n : Nat} {P : Option Value → aW → Prop} (hn : n ≤ 220) (h1 : σ 1 1 = nI n)
    (hF : ¬ (txR (σ 8) n).2.2.1 = 0 → ∀ τ, τ 1 1 = 0 → τ 1 2 = (txR (σ 8) n).2.2.2 → (∀ a, a = 0 ∨ 8 ≤ a → τ a = σ a) → P (some (.int (-10 - (txR (σ 8) n).2.2.1))) τ)
    (hO : (txR (σ 8) n).2.2.1 = 0 → ∀ τ, cOut σ τ (txR (σ 8) n).1 (txR (σ 8) n).2.2.2 → P (some (.int (nI (txR (σ 8) n).1.2.2.1))) τ) : aC l (d + 30) 62 [.ref 0] σ P := by
  refine aC_of rfl (Nat.le_of_ble_eq_true rfl) ?_
  show aE l (d + 29) none 9 cX9_contract (some .int) _ 0 [some (.ref 0), none] [] σ
  simp only [eX9_contract_0, eX9_contract_1, eX9_contract_4, fx0, fx1, fx2, fx3, fx4, nl_int, nl_ref, nl_none, nl_ti, rz_nil, rz_int, rz_ref, rz_long, cf1, cf2, Option.toList_some, Option.toList_none, List.cons_append, List.nil_append]
  refine c_readText (d := d + 23) hn h1 (fun τ t1 t2 t0 tC => ?_)
  have hK : (txR (σ 8) n).2.2.1 = 0 → DOK (txR (σ 8) n).1 := fun c => rdT_ok _ _ _ DOK.z c
  generalize txR (σ 8) n = R at hF hO t2 tC hK ⊢
  obtain ⟨D, p, c, wh⟩ := R
  dsimp only at hF hO t2 tC hK ⊢
  by_cases ec : c = 0
  · simp only [eX9_contract_7, eX9_contract_8, eX9_contract_9, eX9_contract_17, eX9_contract_18, eX9_contract_21, eX9_contract_22, eX9_contract_25, eX9_contract_28, fx0, fx1, fx2, fx3, fx4, nl_int, nl_ref, nl_none, nl_ti, rz_nil, rz_int, rz_ref, rz_long, cf1, cf2, Option.toList_some, Option.toList_none, List.cons_append, List.nil_append, ec, if_true]
    obtain ⟨k1, ⟨k2, k3⟩, k4, k5⟩ := tC ec
    obtain ⟨⟨-, hW, hS⟩, -⟩ := hK ec
    refine aC.of (c_copyC (d := d + 28)) ?_
    simp only [eX9_contract_31, eX9_contract_32, eX9_contract_35, eX9_contract_36, eX9_contract_39, fx0, fx1, fx2, fx3, fx4, nl_int, nl_ref, nl_none, nl_ti, rz_nil, rz_int, rz_ref, rz_long, cf1, cf2, Option.toList_some, Option.toList_none, List.cons_append, List.nil_append]
    generalize hρ : (sr (sr (sr (sr (sr (su (su (su (su (su (su τ 9 0 (τ 2 0)) 9 1 (τ 2 1)) 9 2 (τ 2 2)) 9 3 (τ 2 3)) 9 4 (τ 2 4)) 9 5 (τ 2 5)) 10 (pre 6 (τ 3) (τ 10))) 11 (pre 6 (τ 4) (τ 11))) 12 (pre 6 (τ 5) (τ 12))) 13 (pre 6 (τ 6) (τ 13))) 14 (pre 8 (τ 7) (τ 14))) = ρ
    have o9 : ρ 9 0 = τ 2 0 ∧ ρ 9 1 = τ 2 1 ∧ ρ 9 2 = τ 2 2 ∧ ρ 9 3 = τ 2 3 ∧ ρ 9 4 = τ 2 4 ∧ ρ 9 5 = τ 2 5 := by rw [← hρ]; simp only [su_at, su_ne, sr_eq, sr_ne, ne_eq, Nat.reduceEqDiff, not_false_eq_true, not_true_eq_false, if_true, if_false, and_self]
    have o10 : ρ 10 = pre 6 (τ 3) (τ 10) := by rw [← hρ]; simp only [su_at, su_ne, sr_eq, sr_ne, ne_eq, Nat.reduceEqDiff, not_false_eq_true, not_true_eq_false, if_true, if_false]
    have o11 : ρ 11 = pre 6 (τ 4) (τ 11) := by rw [← hρ]; simp only [su_at, su_ne, sr_eq, sr_ne, ne_eq, Nat.reduceEqDiff, not_false_eq_true, not_true_eq_false, if_true, if_false]
    have o12 : ρ 12 = pre 6 (τ 5) (τ 12) := by rw [← hρ]; simp only [su_at, su_ne, sr_eq, sr_ne, ne_eq, Nat.reduceEqDiff, not_false_eq_true, not_true_eq_false, if_true, if_false]
    have o13 : ρ 13 = pre 6 (τ 6) (τ 13) := by rw [← hρ]; simp only [su_at, su_ne, sr_eq, sr_ne, ne_eq, Nat.reduceEqDiff, not_false_eq_true, not_true_eq_false, if_true, if_false]
    have o14 : ρ 14 = pre 8 (τ 7) (τ 14) := by rw [← hρ]; simp only [su_at, su_ne, sr_eq, sr_ne, ne_eq, Nat.reduceEqDiff, not_false_eq_true, not_true_eq_false, if_true, if_false]
    have oo : ∀ a, a < 9 ∨ 14 < a → ρ a = τ a := fun a ha => by rw [← hρ, sr_ne (by omega), sr_ne (by omega), sr_ne (by omega), sr_ne (by omega), sr_ne (by omega), su_ne (by omega), su_ne (by omega), su_ne (by omega), su_ne (by omega), su_ne (by omega), su_ne (by omega)]
    clear hρ
    refine aC.of (c_begin (d := d + 28)) ?_
    simp only [eX9_contract_42, eX9_contract_43, eX9_contract_46, fx0, fx1, fx2, fx3, fx4, nl_int, nl_ref, nl_none, nl_ti, rz_nil, rz_int, rz_ref, rz_long, cf1, cf2, Option.toList_some, Option.toList_none, List.cons_append, List.nil_append]
    generalize hμ : (sr (sr (su (su (su (su (su (su (su ρ 15 0 0) 15 1 0) 15 2 0) 15 3 0) 15 4 0) 15 5 0) 15 6 0) 16 (pre 6 (ρ 10) (ρ 16))) 17 (pre 6 (fun _ => 0) (ρ 17))) = μ
    have p15 : ∀ k, k < 7 → μ 15 k = 0 := fun k hk => by
      rw [← hμ]
      simp only [su_at, su_ne, sr_eq, sr_ne, ne_eq, Nat.reduceEqDiff, not_false_eq_true, not_true_eq_false, if_true, if_false]
      rcases (show k = 0 ∨ k = 1 ∨ k = 2 ∨ k = 3 ∨ k = 4 ∨ k = 5 ∨ k = 6 by omega) with rfl | rfl | rfl | rfl | rfl | rfl | rfl <;> rfl
    have p16 : μ 16 = pre 6 (ρ 10) (ρ 16) := by rw [← hμ]; simp only [su_at, su_ne, sr_eq, sr_ne, ne_eq, Nat.reduceEqDiff, not_false_eq_true, not_true_eq_false, if_true, if_false]
    have p17 : μ 17 = pre 6 (fun _ => 0) (ρ 17) := by rw [← hμ]; simp only [su_at, su_ne, sr_eq, sr_ne, ne_eq, Nat.reduceEqDiff, not_false_eq_true, not_true_eq_false, if_true, if_false]
    have pp : ∀ a, a < 15 ∨ 17 < a → μ a = ρ a := fun a ha => by rw [← hμ, sr_ne (by omega), sr_ne (by omega), su_ne (by omega), su_ne (by omega), su_ne (by omega), su_ne (by omega), su_ne (by omega), su_ne (by omega), su_ne (by omega)]
    clear hμ
    refine aC.of (c_clearH (d := d + 28)) ?_
    simp only [eX9_contract_49, eX9_contract_50, eX9_contract_53, fx0, fx1, fx2, fx3, fx4, nl_int, nl_ref, nl_none, nl_ti, rz_nil, rz_int, rz_ref, rz_long, cf1, cf2, Option.toList_some, Option.toList_none, List.cons_append, List.nil_append]
    refine aC.of (c_clearAlbum (d := d + 28)) ?_
    simp only [eX9_contract_56, eX9_contract_57, eX9_contract_60, fx0, fx1, fx2, fx3, fx4, nl_int, nl_ref, nl_none, nl_ti, rz_nil, rz_int, rz_ref, rz_long, cf1, cf2, Option.toList_some, Option.toList_none, List.cons_append, List.nil_append]
    refine aC.of (c_clearSeen (d := d + 28)) ?_
    simp only [eX9_contract_63, eX9_contract_64, eX9_contract_67, fx0, fx1, fx2, fx3, fx4, nl_int, nl_ref, nl_none, nl_ti, rz_nil, rz_int, rz_ref, rz_long, cf1, cf2, Option.toList_some, Option.toList_none, List.cons_append, List.nil_append]
    refine aC.of (c_clearBook (d := d + 28)) ?_
    simp only [eX9_contract_70, eX9_contract_71, eX9_contract_74, eX9_contract_77, fx0, fx1, fx2, fx3, fx4, nl_int, nl_ref, nl_none, nl_ti, rz_nil, rz_int, rz_ref, rz_long, cf1, cf2, Option.toList_some, Option.toList_none, List.cons_append, List.nil_append]
    generalize hκ : su (su (su (su (su (su μ 18 0 0) 18 1 0) 83 0 0) 83 1 0) 103 0 0) 106 0 0 = κ
    have q0 : ∀ a, a < 18 ∨ a = 90 ∨ 109 ≤ a → κ a = μ a := fun a ha => by rw [← hκ, su_ne (by omega), su_ne (by omega), su_ne (by omega), su_ne (by omega), su_ne (by omega), su_ne (by omega)]
    have q1 : (κ 18 0 = 0 ∧ κ 18 1 = 0) ∧ (κ 83 0 = 0 ∧ κ 83 1 = 0) ∧ κ 103 0 = 0 ∧ κ 106 0 = 0 := by rw [← hκ]; simp only [su_at, su_ne, sr_eq, sr_ne, ne_eq, Nat.reduceEqDiff, not_false_eq_true, not_true_eq_false, if_true, if_false, and_self]
    clear hκ
    have r94 : κ 9 4 = nI D.2.2.1 := by rw [q0 9 (by omega), pp 9 (by omega), o9.2.2.2.2.1]; exact k2
    rw [r94]
    refine hO ec κ ⟨⟨?_, ?_, fun a ha => ?_⟩, ⟨fun k hk => ?_, r94, ?_⟩, fun p hp => ?_, fun q hq => ?_, ⟨fun k hk => ?_, fun p hp => ?_⟩, q1⟩
    · rw [q0 1 (by omega), pp 1 (by omega), oo 1 (by omega)]; exact t1
    · rw [q0 1 (by omega), pp 1 (by omega), oo 1 (by omega)]; exact t2
    · rw [q0 a (by omega), pp a (by omega), oo a (by omega)]; exact t0 a (by omega)
    · rw [q0 9 (by omega), pp 9 (by omega)]
      rcases (show k = 0 ∨ k = 1 ∨ k = 2 ∨ k = 3 by omega) with rfl | rfl | rfl | rfl
      · rw [o9.1]; exact k1 0 (by decide)
      · rw [o9.2.1]; exact k1 1 (by decide)
      · rw [o9.2.2.1]; exact k1 2 (by decide)
      · rw [o9.2.2.2.1]; exact k1 3 (by decide)
    · rw [q0 9 (by omega), pp 9 (by omega), o9.2.2.2.2.2]; exact k3
    · have hw : D.2.2.1 ≤ 6 := hW
      obtain ⟨g1, g2, g3, g4⟩ := k4 p hp
      rw [q0 16 (by omega), q0 11 (by omega), q0 12 (by omega), q0 13 (by omega), p16, pp 11 (by omega), pp 12 (by omega), pp 13 (by omega), o10, o11, o12, o13]
      unfold pre
      rw [if_pos (by omega), if_pos (by omega), if_pos (by omega), if_pos (by omega), if_pos (by omega)]
      exact ⟨g1, g2, g3, g4⟩
    · have hs : D.2.2.2 ≤ 8 := hS
      rw [q0 14 (by omega), pp 14 (by omega), o14]
      unfold pre
      rw [if_pos (by omega)]
      exact k5 q hq
    · rw [q0 15 (by omega)]; exact p15 k hk
    · rw [q0 17 (by omega), p17]
      unfold pre
      rw [if_pos hp]
  · simp only [eX9_contract_7, eX9_contract_8, eX9_contract_9, eX9_contract_12, eX9_contract_14, eX9_contract_15, eX9_contract_16, fx0, fx1, fx2, fx3, fx4, nl_int, nl_ref, nl_none, nl_ti, rz_nil, rz_int, rz_ref, rz_long, cf1, cf2, Option.toList_some, Option.toList_none, List.cons_append, List.nil_append, ec, if_false]
    exact hF ec τ t1 t2 t0
end CT
