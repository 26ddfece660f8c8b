/-! a clause: the model -/
section MC
variable {l : Launch} {d : Nat} {σ : aW}
theorem m_into {n p i N a : Nat} {lo hi' : Int32} {P : Option Value → aW → Prop} (ha : akd a = 0) (ha2 : aln a = N) (hi : i < N) (hN : N ≤ 1000) (h1 : σ 109 13 = nI n) (hn : n ≤ 220) (h4 : σ 109 15 = nI p) (hp : p ≤ n) (hP : ∀ τ, tnQ σ n p (nC (σ 115) n p lo hi') τ → P (some (.int (nC (σ 115) n p lo hi'))) (su τ a i (τ 109 16))) : aC l (d + 3) 103 [.ref 109, .ref a, .int (nI i), .int lo, .int hi'] σ P := by
  refine aC_of rfl (Nat.le_of_ble_eq_true rfl) ?_
  show aE l (d + 2) none 10 cX10_into (some .int) _ 0 [some (.ref 109), some (.ref a), some (.int (nI i)), some (.int lo), some (.int hi'), none] [] σ
  have hin : vp_in (nI i) N := vin hi hN
  have hcl : (nI i).toNatClampNeg = i := nic (by omega)
  simp only [eX10_into_0, eX10_into_1, eX10_into_2, eX10_into_4, fx0, fx1, fx2, fx3, fx4, nl_int, nl_ref, nl_none, nl_ti, rz_nil, rz_int, rz_ref, rz_long, cf1, cf2, Option.toList_some, Option.toList_none, List.cons_append, List.nil_append]
  refine m_takeNumber h1 hn h4 hp (fun τ hτ => ?_)
  simp only [eX10_into_7, eX10_into_9, eX10_into_10, eX10_into_11, eX10_into_12, eX10_into_15, eX10_into_16, eX10_into_18, fx0, fx1, fx2, fx3, fx4, nl_int, nl_ref, nl_none, nl_ti, rz_nil, rz_int, rz_ref, rz_long, cf1, cf2, Option.toList_some, Option.toList_none, List.cons_append, List.nil_append, ha, ha2, hin, hcl, true_and]
  exact hP τ hτ
end MC
