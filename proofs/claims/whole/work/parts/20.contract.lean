theorem c_hasWatcher {l : Launch} {d : Nat} {a : Nat} (ha : cls a = 2) {σ : aW} {p : Int32} : Sem l (d + 1) 10 [.ref a, .int p] σ (some (.int (if 0 ≤ p ∧ p < σ a 4 ∧ p < 6 then 1 else 0))) σ := by
  refine Sem_of rfl (Nat.le_of_ble_eq_true rfl) ?_
  show aE l d none 2 cX2_hasWatcher (some .boolean) _ 0 [some (.ref a), some (.int p)] [] σ
  simp only [eX2_hasWatcher_0, eX2_hasWatcher_1, eX2_hasWatcher_4, eX2_hasWatcher_5, eX2_hasWatcher_6, eX2_hasWatcher_9, eX2_hasWatcher_12, eX2_hasWatcher_13, eX2_hasWatcher_15, eX2_hasWatcher_18, eX2_hasWatcher_19, eX2_hasWatcher_22, eX2_hasWatcher_23, fx0, fx1, fx2, fx3, fx4, nl_int, nl_ref, nl_none, nl_ti, rsz_nil, rsz_int, rsz_ref, rsz_long, cf1, cf2, Option.toList_some, Option.toList_none, List.cons_append, List.nil_append, ha]
  trace_state
  sorry
