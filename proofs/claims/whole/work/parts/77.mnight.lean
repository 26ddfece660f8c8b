/-! the night's clause: the model -/
theorem rd_code {tx : Nat → Int32} {n : Nat} {lo hi : Int32} {t : rS} (h : t.2.1 = 0) : (rd tx n lo hi t).2.1 = 0 ∨ ¬ (rd tx n lo hi t).2.1 ≤ 0 := by
  unfold rd
  rw [if_pos h]
  show nC tx n t.1 lo hi = 0 ∨ ¬ nC tx n t.1 lo hi ≤ 0
  unfold nC
  split
  · exact Or.inr (by decide)
  · split
    · exact Or.inr (by decide)
    · exact Or.inl rfl
theorem rd_no {tx : Nat → Int32} {n : Nat} {lo hi : Int32} {t : rS} (h : ¬ t.2.1 ≤ 0) : rd tx n lo hi t = t := by
  unfold rd
  rw [if_neg]
  intro e
  rw [e] at h
  exact h (by decide)
section MN
variable {l : Launch} {d : Nat} {σ : aW}
theorem m_night {n : Nat} {t t1 t2 t3 t4 : rS} {P : Option Value → aW → Prop} (hn : n ≤ 220) (h : MS n σ t) (ht : t.2.1 = 0) (e1 : rd (σ 115) n 1 6 t = t1) (e2 : rd (σ 115) n 0 99 t1 = t2) (e3 : rd (σ 115) n 0 99 t2 = t3) (e4 : rd (σ 115) n 0 20 t3 = t4)
    (hP : ∀ τ, MS n τ t4 → FM 116 σ τ → (t4.2.1 = 0 → τ 116 0 = rdV (σ 115) n 1 t ∧ τ 116 1 = rdV (σ 115) n 0 t1 ∧ τ 116 2 = rdV (σ 115) n 0 t2 ∧ τ 116 3 = rdV (σ 115) n 0 t3) → P (some (.int t4.2.1)) τ) : aC l (d + 4) 104 [.ref 109] σ P := by
  refine aC_of rfl (Nat.le_of_ble_eq_true rfl) ?_
  show aE l (d + 3) none 10 cX10_takeContract (some .int) _ 0 [some (.ref 109), none] [] σ
  have no0 : ∀ {x : Int32}, ¬ x ≤ 0 → ¬ x = 0 := fun hx e => hx (by rw [e]; decide)
  simp only [eX10_takeContract_0, eX10_takeContract_1, eX10_takeContract_2, eX10_takeContract_5, eX10_takeContract_6, eX10_takeContract_7, eX10_takeContract_9, fx0, fx1, fx2, fx3, fx4, nl_int, nl_ref, nl_none, nl_ti, rz_nil, rz_int, rz_ref, rz_long, cf1, cf2, Option.toList_some, Option.toList_none, List.cons_append, List.nil_append]
  refine m_num (i := 0) (N := 4) rfl rfl (by decide) (by decide) (by decide) hn h ht (fun τ1 r1 f1 j1 v1 => ?_)
  rw [e1] at r1 v1 ⊢
  have c1 := rd_code (tx := σ 115) (n := n) (lo := 1) (hi := 6) ht
  rw [e1] at c1
  rcases c1 with c1 | c1
  · have x1 : τ1 115 = σ 115 := f1.1 115 (by decide) (by decide)
    simp only [eX10_takeContract_12, eX10_takeContract_13, eX10_takeContract_14, eX10_takeContract_17, eX10_takeContract_18, eX10_takeContract_21, eX10_takeContract_22, eX10_takeContract_23, eX10_takeContract_26, eX10_takeContract_27, eX10_takeContract_28, eX10_takeContract_30, fx0, fx1, fx2, fx3, fx4, nl_int, nl_ref, nl_none, nl_ti, rz_nil, rz_int, rz_ref, rz_long, cf1, cf2, Option.toList_some, Option.toList_none, List.cons_append, List.nil_append, c1, show (0 : Int32) ≤ 0 by decide, if_true]
    refine m_num (i := 1) (N := 4) rfl rfl (by decide) (by decide) (by decide) hn r1 c1 (fun τ2 r2 f2 j2 v2 => ?_)
    rw [x1] at r2 v2 ⊢
    rw [e2] at r2 v2 ⊢
    have c2 := rd_code (tx := σ 115) (n := n) (lo := 0) (hi := 99) c1
    rw [e2] at c2
    rcases c2 with c2 | c2
    · have x2 : τ2 115 = σ 115 := (f2.1 115 (by decide) (by decide)).trans x1
      simp only [eX10_takeContract_33, eX10_takeContract_34, eX10_takeContract_35, eX10_takeContract_38, eX10_takeContract_39, eX10_takeContract_42, eX10_takeContract_43, eX10_takeContract_44, eX10_takeContract_47, eX10_takeContract_48, eX10_takeContract_49, eX10_takeContract_51, fx0, fx1, fx2, fx3, fx4, nl_int, nl_ref, nl_none, nl_ti, rz_nil, rz_int, rz_ref, rz_long, cf1, cf2, Option.toList_some, Option.toList_none, List.cons_append, List.nil_append, c2, show (0 : Int32) ≤ 0 by decide, if_true]
      refine m_num (i := 2) (N := 4) rfl rfl (by decide) (by decide) (by decide) hn r2 c2 (fun τ3 r3 f3 j3 v3 => ?_)
      rw [x2] at r3 v3 ⊢
      rw [e3] at r3 v3 ⊢
      have c3 := rd_code (tx := σ 115) (n := n) (lo := 0) (hi := 99) c2
      rw [e3] at c3
      rcases c3 with c3 | c3
      · have x3 : τ3 115 = σ 115 := (f3.1 115 (by decide) (by decide)).trans x2
        simp only [eX10_takeContract_54, eX10_takeContract_55, eX10_takeContract_56, eX10_takeContract_59, eX10_takeContract_60, eX10_takeContract_63, eX10_takeContract_64, eX10_takeContract_65, eX10_takeContract_68, eX10_takeContract_69, eX10_takeContract_70, eX10_takeContract_72, fx0, fx1, fx2, fx3, fx4, nl_int, nl_ref, nl_none, nl_ti, rz_nil, rz_int, rz_ref, rz_long, cf1, cf2, Option.toList_some, Option.toList_none, List.cons_append, List.nil_append, c3, show (0 : Int32) ≤ 0 by decide, if_true]
        refine m_num (i := 3) (N := 4) rfl rfl (by decide) (by decide) (by decide) hn r3 c3 (fun τ4 r4 f4 j4 v4 => ?_)
        rw [x3] at r4 v4 ⊢
        rw [e4] at r4 v4 ⊢
        simp only [eX10_takeContract_75, fx0, fx1, fx2, fx3, fx4, nl_int, nl_ref, nl_none, nl_ti, rz_nil, rz_int, rz_ref, rz_long, cf1, cf2, Option.toList_some, Option.toList_none, List.cons_append, List.nil_append]
        refine hP τ4 r4 ⟨fun a a1 a2 => by rw [f4.1 a a1 a2, f3.1 a a1 a2, f2.1 a a1 a2, f1.1 a a1 a2], fun k k1 k2 k3 k4 => by rw [f4.2 k k1 k2 k3 k4, f3.2 k k1 k2 k3 k4, f2.2 k k1 k2 k3 k4, f1.2 k k1 k2 k3 k4]⟩ (fun c4 => ⟨?_, ?_, ?_, v4 c4⟩)
        · rw [j4 0 (by decide), j3 0 (by decide), j2 0 (by decide)]; exact v1 c1
        · rw [j4 1 (by decide), j3 1 (by decide)]; exact v2 c2
        · rw [j4 2 (by decide)]; exact v3 c3
      · simp only [eX10_takeContract_54, eX10_takeContract_55, eX10_takeContract_56, eX10_takeContract_59, eX10_takeContract_60, eX10_takeContract_75, fx0, fx1, fx2, fx3, fx4, nl_int, nl_ref, nl_none, nl_ti, rz_nil, rz_int, rz_ref, rz_long, cf1, cf2, Option.toList_some, Option.toList_none, List.cons_append, List.nil_append, c3, if_false]
        rw [rd_no c3] at e4
        subst e4
        exact hP τ3 r3 ⟨fun a a1 a2 => by rw [f3.1 a a1 a2, f2.1 a a1 a2, f1.1 a a1 a2], fun k k1 k2 k3 k4 => by rw [f3.2 k k1 k2 k3 k4, f2.2 k k1 k2 k3 k4, f1.2 k k1 k2 k3 k4]⟩ (fun c => absurd c (no0 c3))
    · simp only [eX10_takeContract_33, eX10_takeContract_34, eX10_takeContract_35, eX10_takeContract_38, eX10_takeContract_39, eX10_takeContract_54, eX10_takeContract_55, eX10_takeContract_56, eX10_takeContract_59, eX10_takeContract_60, eX10_takeContract_75, fx0, fx1, fx2, fx3, fx4, nl_int, nl_ref, nl_none, nl_ti, rz_nil, rz_int, rz_ref, rz_long, cf1, cf2, Option.toList_some, Option.toList_none, List.cons_append, List.nil_append, c2, if_false]
      rw [rd_no c2] at e3
      subst e3
      rw [rd_no c2] at e4
      subst e4
      exact hP τ2 r2 ⟨fun a a1 a2 => by rw [f2.1 a a1 a2, f1.1 a a1 a2], fun k k1 k2 k3 k4 => by rw [f2.2 k k1 k2 k3 k4, f1.2 k k1 k2 k3 k4]⟩ (fun c => absurd c (no0 c2))
  · simp only [eX10_takeContract_12, eX10_takeContract_13, eX10_takeContract_14, eX10_takeContract_17, eX10_takeContract_18, eX10_takeContract_33, eX10_takeContract_34, eX10_takeContract_35, eX10_takeContract_38, eX10_takeContract_39, eX10_takeContract_54, eX10_takeContract_55, eX10_takeContract_56, eX10_takeContract_59, eX10_takeContract_60, eX10_takeContract_75, fx0, fx1, fx2, fx3, fx4, nl_int, nl_ref, nl_none, nl_ti, rz_nil, rz_int, rz_ref, rz_long, cf1, cf2, Option.toList_some, Option.toList_none, List.cons_append, List.nil_append, c1, if_false]
    rw [rd_no c1] at e2
    subst e2
    rw [rd_no c1] at e3
    subst e3
    rw [rd_no c1] at e4
    subst e4
    exact hP τ1 r1 f1 (fun c => absurd c (no0 c1))
end MN
