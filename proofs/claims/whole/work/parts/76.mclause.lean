/-! a clause: the model -/
def MS (n : Nat) (τ : aW) (t : rS) : Prop := τ 109 13 = nI n ∧ τ 109 15 = nI t.1 ∧ t.1 ≤ n ∧ τ 109 14 = t.2.2
def FM (b : Nat) (τ τ' : aW) : Prop := (∀ a, a ≠ 109 → a ≠ b → τ' a = τ a) ∧ ∀ k, k ≠ 14 → k ≠ 15 → k ≠ 16 → k ≠ 17 → τ' 109 k = τ 109 k
section MC
variable {l : Launch} {d : Nat} {σ : aW}
theorem m_into {n p i N a : Nat} {lo hi' : Int32} {P : Option Value → aW → Prop} (ha : akd a = 0) (ha2 : aln a = N) (hi : i < N) (hN : N ≤ 1000) (h1 : σ 109 13 = nI n) (hn : n ≤ 220) (h4 : σ 109 15 = nI p) (hp : p ≤ n) (hP : ∀ τ, tnQ σ n p (nC (σ 115) n p lo hi') τ → P (some (.int (nC (σ 115) n p lo hi'))) (su τ a i (τ 109 16))) : aC l (d + 3) 103 [.ref 109, .ref a, .int (nI i), .int lo, .int hi'] σ P := by
  refine aC_of rfl (Nat.le_of_ble_eq_true rfl) ?_
  show aE l (d + 2) none 10 cX10_into (some .int) _ 0 [some (.ref 109), some (.ref a), some (.int (nI i)), some (.int lo), some (.int hi'), none] [] σ
  have hin : vp_in (nI i) N := vin hi hN
  have hcl : (nI i).toNatClampNeg = i := nic (by omega)
  simp only [eX10_into_0, eX10_into_1, eX10_into_2, eX10_into_4, fx0, fx1, fx2, fx3, fx4, nl_int, nl_ref, nl_none, nl_ti, rz_nil, rz_int, rz_ref, rz_long, cf1, cf2, Option.toList_some, Option.toList_none, List.cons_append, List.nil_append]
  refine m_takeNumber h1 hn h4 hp (fun τ hτ => ?_)
  simp only [eX10_into_7, eX10_into_9, eX10_into_10, eX10_into_11, eX10_into_12, eX10_into_15, eX10_into_16, eX10_into_18, fx0, fx1, fx2, fx3, fx4, nl_int, nl_ref, nl_none, nl_ti, rz_nil, rz_int, rz_ref, rz_long, cf1, cf2, Option.toList_some, Option.toList_none, List.cons_append, List.nil_append, ha, ha2, hin, hcl, true_and]
  exact hP τ hτ
theorem m_num {n i N a : Nat} {t : rS} {lo hi' : Int32} {P : Option Value → aW → Prop} (ha : akd a = 0) (ha2 : aln a = N) (hi : i < N) (hN : N ≤ 1000) (hne : a ≠ 109) (hn : n ≤ 220) (h : MS n σ t) (ht : t.2.1 = 0)
    (hP : ∀ τ, MS n τ (rd (σ 115) n lo hi' t) → FM a σ τ → (∀ j, j ≠ i → τ a j = σ a j) → ((rd (σ 115) n lo hi' t).2.1 = 0 → τ a i = rdV (σ 115) n lo t) → P (some (.int (rd (σ 115) n lo hi' t).2.1)) τ) : aC l (d + 3) 103 [.ref 109, .ref a, .int (nI i), .int lo, .int hi'] σ P := by
  obtain ⟨h1, h4, hp, h2⟩ := h
  refine m_into ha ha2 hi hN h1 hn h4 hp (fun τ hτ => ?_)
  obtain ⟨g1, g2⟩ := nE_le (tx := σ 115) hp
  obtain ⟨q1, q2, q3, q4, q5⟩ := hτ
  unfold rd rdV at hP
  rw [if_pos ht, if_pos ht] at hP
  refine hP _ ⟨?_, ?_, g2, ?_⟩ ⟨fun b b1 b2 => by rw [su_ne b2]; exact q1 b b1, fun k k1 k2 k3 k4 => by rw [su_ne (Ne.symm hne)]; exact q2 k k1 k2 k3 k4⟩ (fun j hj => by rw [su_at, if_neg hj, q1 a hne]) (fun hc => by rw [su_at, if_pos rfl]; exact (q4 hc).1)
  · rw [su_ne (Ne.symm hne), q2 13 (by decide) (by decide) (by decide) (by decide)]; exact h1
  · rw [su_ne (Ne.symm hne)]; exact q3
  · rw [su_ne (Ne.symm hne)]
    show τ 109 14 = if nC (σ 115) n t.1 lo hi' = 0 then t.2.2 else nI (nP (σ 115) n t.1)
    by_cases e : nC (σ 115) n t.1 lo hi' = 0
    · rw [if_pos e, (q4 e).2]; exact h2
    · rw [if_neg e]; exact q5 e
end MC
