/-! the reference: remember, undo, draw .. -/
def shf (f : Nat → Int32) (K : Nat) : Nat → Int32 := fun j => if j + 19 < K then f (j + 19) else f j
theorem shf_up (f : Nat → Int32) (K : Nat) (h : 19 ≤ K) : upd (shf f K) (K - 19) (f K) = shf f (K + 1) := by
  funext q
  unfold upd shf
  by_cases e : q = K - 19
  · subst e; rw [if_pos rfl, if_pos (by omega), show K - 19 + 19 = K by omega]
  · rw [if_neg e]
    by_cases e2 : q + 19 < K
    · rw [if_pos e2, if_pos (by omega)]
    · rw [if_neg e2, if_neg (by omega)]
def rowN (n : Nat) (σ : aW) (j k : Nat) : Int32 := if n < 20 then (if j < n then σ 122 (19 * j + k) else σ 114 k) else (if j < 19 then σ 122 (19 * (j + 1) + k) else σ 114 k)
def numN (n : Nat) : Nat := if n < 20 then n + 1 else 20
def mremP (n : Nat) (σ σ' : aW) : Prop := (∀ c, c ≠ 122 → c ≠ 109 → σ' c = σ c) ∧ (∀ k, k ≠ 26 → σ' 109 k = σ 109 k) ∧ σ' 109 26 = nI (numN n) ∧ ∀ j k, k < 19 → j < numN n → σ' 122 (19 * j + k) = rowN n σ j k
section M3
variable {l : Launch} {d : Nat} {σ : aW}
theorem rem_shift {Q : Option Value → aW → Prop} (hk : aE l d none 10 cX10_remember none Q 40 [some (.ref 109), some (.int (nI 380))] [] (sr σ 122 (shf (σ 122) 380))) : ∀ n K, 19 ≤ K → K + n = 380 → aE l d none 10 cX10_remember none Q 12 [some (.ref 109), some (.int (nI K))] [] (sr σ 122 (shf (σ 122) K)) := by
  intro n
  induction n with
  | zero =>
    intro K h19 hK
    have hK : K = 380 := by omega
    subst hK
    rw [eX10_remember_12]
    simp only [eX10_remember_13, eX10_remember_16, show (380 : Int32) ≤ nI 380 by decide, if_true]
    exact hk
  | succ n ih =>
    intro K h19 hK
    have h2 : ¬ (380 : Int32) ≤ nI K := by rw [show (380 : Int32) = nI 380 from rfl, nile (by omega) (by omega)]; omega
    have hs : nI K - 19 = nI (K - 19) := by rw [show (19 : Int32) = nI 19 from rfl, pk_sub h19]
    have hin : vp_in (nI K) 380 := vin (by omega) (by omega)
    have hin2 : vp_in (nI (K - 19)) 380 := vin (by omega) (by omega)
    have hcl : (nI K).toNatClampNeg = K := nic (by omega)
    have hcl2 : (nI (K - 19)).toNatClampNeg = K - 19 := nic (by omega)
    have hinc : nI K + 1 = nI (K + 1) := nI_1 K
    have hr : shf (σ 122) K K = σ 122 K := if_neg (by omega)
    rw [eX10_remember_12]
    simp only [eX10_remember_13, eX10_remember_16, eX10_remember_19, eX10_remember_20, eX10_remember_23, eX10_remember_24, eX10_remember_26, eX10_remember_27, eX10_remember_28, eX10_remember_31, eX10_remember_32, eX10_remember_33, eX10_remember_34, eX10_remember_37, fx0, fx1, fx2, fx3, fx4, nl_int, nl_ref, nl_none, nl_ti, rz_nil, rz_int, rz_ref, rz_long, cf1, cf2, Option.toList_some, Option.toList_none, List.cons_append, List.nil_append, su_at, su_ne, sr_eq, sr_ne, ne_eq, Nat.reduceEqDiff, not_false_eq_true, not_true_eq_false, if_true, if_false, h2, hs, hin, hin2, hcl, hcl2, hinc, hr, true_and]
    rw [su_sr, shf_up _ _ h19]
    exact ih (K + 1) (by omega) (by omega)
theorem rem_copy {Q : Option Value → aW → Prop} {τ : aW} {u : Nat} (hu : τ 109 26 = nI u) (hu20 : u < 20) (hk : aE l d none 10 cX10_remember none Q 84 [some (.ref 109), some (.int (nI 19))] [] (sr τ 122 (rng (19 * u) 19 (fun k => τ 114 (k - 19 * u)) (τ 122)))) : ∀ n p, p + n = 19 → aE l d none 10 cX10_remember none Q 52 [some (.ref 109), some (.int (nI p))] [] (sr τ 122 (rng (19 * u) p (fun k => τ 114 (k - 19 * u)) (τ 122))) := by
  intro n
  induction n with
  | zero =>
    intro p hp
    have hp : p = 19 := by omega
    subst hp
    rw [eX10_remember_52]
    simp only [eX10_remember_53, eX10_remember_55, show (19 : Int32) ≤ nI 19 by decide, if_true]
    exact hk
  | succ n ih =>
    intro p hp
    have h2 : ¬ (19 : Int32) ≤ nI p := by rw [show (19 : Int32) = nI 19 from rfl, nile (by omega) (by omega)]; omega
    have hs : (19 : Int32) * nI u + nI p = nI (19 * u + p) := by rw [show (19 : Int32) = nI 19 from rfl, pk_mul, nI_add]
    have hin : vp_in (nI p) 19 := vin (by omega) (by omega)
    have hin2 : vp_in (nI (19 * u + p)) 380 := vin (by omega) (by omega)
    have hcl : (nI p).toNatClampNeg = p := nic (by omega)
    have hcl2 : (nI (19 * u + p)).toNatClampNeg = 19 * u + p := nic (by omega)
    have hinc : nI p + 1 = nI (p + 1) := nI_1 p
    rw [eX10_remember_52]
    simp only [eX10_remember_53, eX10_remember_55, eX10_remember_58, eX10_remember_59, eX10_remember_62, eX10_remember_64, eX10_remember_65, eX10_remember_68, eX10_remember_69, eX10_remember_70, eX10_remember_71, eX10_remember_72, eX10_remember_75, eX10_remember_76, eX10_remember_77, eX10_remember_78, eX10_remember_81, fx0, fx1, fx2, fx3, fx4, nl_int, nl_ref, nl_none, nl_ti, rz_nil, rz_int, rz_ref, rz_long, cf1, cf2, Option.toList_some, Option.toList_none, List.cons_append, List.nil_append, su_at, su_ne, sr_eq, sr_ne, ne_eq, Nat.reduceEqDiff, not_false_eq_true, not_true_eq_false, if_true, if_false, h2, hu, hs, hin, hin2, hcl, hcl2, hinc, true_and]
    rw [rng_step (h := fun k => τ 114 (k - 19 * u)) (by show _ = τ 114 (19 * u + p - 19 * u); rw [Nat.add_sub_cancel_left])]
    exact ih (p + 1) (by omega)
theorem m_remember {n : Nat} (hn : σ 109 26 = nI n) (hn20 : n ≤ 20) : aC l (d + 1) 118 [.ref 109] σ (fun r σ' => r = none ∧ mremP n σ σ') := by
  refine aC_of rfl (Nat.le_of_ble_eq_true rfl) ?_
  show aE l d none 10 cX10_remember none _ 0 [some (.ref 109), none] [] σ
  by_cases h : n < 20
  · have hne : ¬ nI n = 20 := by rw [show (20 : Int32) = nI 20 from rfl, nieq (by omega) (by omega)]; omega
    simp only [eX10_remember_0, eX10_remember_1, eX10_remember_4, eX10_remember_6, eX10_remember_50, eX10_remember_51, fx0, fx1, fx2, fx3, fx4, nl_int, nl_ref, nl_none, nl_ti, rz_nil, rz_int, rz_ref, rz_long, cf1, cf2, Option.toList_some, Option.toList_none, List.cons_append, List.nil_append, hn, hne, if_false]
    have := rem_copy (l := l) (d := d) (Q := fun r σ' => r = none ∧ mremP n σ σ') (τ := σ) hn h ?_ 19 0 (by omega)
    · rw [rng_0, sr_self] at this
      exact this
    · simp only [eX10_remember_84, eX10_remember_85, eX10_remember_86, eX10_remember_89, eX10_remember_90, eX10_remember_91, eX10_remember_94, fx0, fx1, fx2, fx3, fx4, nl_int, nl_ref, nl_none, nl_ti, rz_nil, rz_int, rz_ref, rz_long, cf1, cf2, Option.toList_some, Option.toList_none, List.cons_append, List.nil_append, su_at, su_ne, sr_eq, sr_ne, ne_eq, Nat.reduceEqDiff, not_false_eq_true, not_true_eq_false, if_true, if_false, hn, nI_1]
      refine ⟨trivial, ?_⟩
      unfold mremP rowN numN
      simp only [h, if_true]
      refine ⟨fun c h1 h2 => ?_, fun k hk => ?_, ?_, fun j k hk hj => ?_⟩
      · simp only [su_ne h2, sr_ne h1]
      · simp only [su_at, su_ne, sr_eq, sr_ne, ne_eq, Nat.reduceEqDiff, not_false_eq_true, not_true_eq_false, if_true, if_false, hk]
      · simp only [su_at, su_ne, sr_eq, sr_ne, ne_eq, Nat.reduceEqDiff, not_false_eq_true, not_true_eq_false, if_true, if_false]
      · simp only [su_at, su_ne, sr_eq, sr_ne, ne_eq, Nat.reduceEqDiff, not_false_eq_true, not_true_eq_false, if_true, if_false]
        unfold rng
        by_cases hj2 : j < n
        · rw [if_neg (by omega), if_pos hj2]
        · have : j = n := by omega
          subst this
          rw [if_pos (by omega), if_neg hj2]
          show σ 114 (19 * j + k - 19 * j) = _
          rw [Nat.add_sub_cancel_left]
  · have hn2 : n = 20 := by omega
    subst hn2
    simp only [eX10_remember_0, eX10_remember_1, eX10_remember_4, eX10_remember_6, eX10_remember_9, eX10_remember_11, fx0, fx1, fx2, fx3, fx4, nl_int, nl_ref, nl_none, nl_ti, rz_nil, rz_int, rz_ref, rz_long, cf1, cf2, Option.toList_some, Option.toList_none, List.cons_append, List.nil_append, hn, show nI 20 = 20 from rfl, if_true]
    have := rem_shift (l := l) (d := d) (σ := σ) (Q := fun r σ' => r = none ∧ mremP 20 σ σ') ?_ 361 19 (by omega) (by omega)
    · rw [show shf (σ 122) 19 = σ 122 by funext j; exact if_neg (by omega), sr_self] at this
      exact this
    · have h19 : nI 20 - 1 = nI 19 := by decide
      simp only [eX10_remember_40, eX10_remember_41, eX10_remember_42, eX10_remember_45, eX10_remember_46, eX10_remember_47, eX10_remember_50, eX10_remember_51, fx0, fx1, fx2, fx3, fx4, nl_int, nl_ref, nl_none, nl_ti, rz_nil, rz_int, rz_ref, rz_long, cf1, cf2, Option.toList_some, Option.toList_none, List.cons_append, List.nil_append, su_at, su_ne, sr_eq, sr_ne, ne_eq, Nat.reduceEqDiff, not_false_eq_true, not_true_eq_false, if_true, if_false, hn, h19]
      have := rem_copy (l := l) (d := d) (Q := fun r σ' => r = none ∧ mremP 20 σ σ') (τ := su (sr σ 122 (shf (σ 122) 380)) 109 26 (nI 19)) (u := 19) (by simp only [su_at, su_ne, sr_eq, sr_ne, ne_eq, Nat.reduceEqDiff, not_false_eq_true, not_true_eq_false, if_true, if_false]) (by decide) ?_ 19 0 (by omega)
      · rw [rng_0, sr_self] at this
        exact this
      · simp only [eX10_remember_84, eX10_remember_85, eX10_remember_86, eX10_remember_89, eX10_remember_90, eX10_remember_91, eX10_remember_94, fx0, fx1, fx2, fx3, fx4, nl_int, nl_ref, nl_none, nl_ti, rz_nil, rz_int, rz_ref, rz_long, cf1, cf2, Option.toList_some, Option.toList_none, List.cons_append, List.nil_append, su_at, su_ne, sr_eq, sr_ne, ne_eq, Nat.reduceEqDiff, not_false_eq_true, not_true_eq_false, if_true, if_false, nI_1]
        refine ⟨trivial, ?_⟩
        unfold mremP rowN numN
        refine ⟨fun c h1 h2 => ?_, fun k hk => ?_, ?_, fun j k hk hj => ?_⟩
        · simp only [su_ne h2, sr_ne h1]
        · simp only [su_at, su_ne, sr_eq, sr_ne, ne_eq, Nat.reduceEqDiff, not_false_eq_true, not_true_eq_false, if_true, if_false, hk]
        · simp only [su_at, su_ne, sr_eq, sr_ne, ne_eq, Nat.reduceEqDiff, not_false_eq_true, not_true_eq_false, if_true, if_false]
          rfl
        · rw [if_neg (by omega)] at hj ⊢
          simp only [su_at, su_ne, sr_eq, sr_ne, ne_eq, Nat.reduceEqDiff, not_false_eq_true, not_true_eq_false, if_true, if_false]
          unfold rng
          by_cases hj2 : j < 19
          · rw [if_neg (by omega), if_pos hj2]
            unfold shf
            rw [if_pos (by omega), show 19 * j + k + 19 = 19 * (j + 1) + k by omega]
          · have : j = 19 := by omega
            subst this
            rw [if_pos (by omega), if_neg hj2]
            show σ 114 (19 * 19 + k - 19 * 19) = _
            rw [Nat.add_sub_cancel_left]
theorem undo_loop {Q : Option Value → aW → Prop} {τ : aW} {u : Nat} (hu : τ 109 26 = nI u) (hu20 : u < 20) (hk : aE l d none 10 cX10_undo (some .int) Q 54 [some (.ref 109), some (.int (nI 19))] [] (sr τ 114 (pre 19 (fun k => τ 122 (19 * u + k)) (τ 114)))) : ∀ n p, p + n = 19 → aE l d none 10 cX10_undo (some .int) Q 22 [some (.ref 109), some (.int (nI p))] [] (sr τ 114 (pre p (fun k => τ 122 (19 * u + k)) (τ 114))) := by
  intro n
  induction n with
  | zero =>
    intro p hp
    have hp : p = 19 := by omega
    subst hp
    rw [eX10_undo_22]
    simp only [eX10_undo_23, eX10_undo_25, show (19 : Int32) ≤ nI 19 by decide, if_true]
    exact hk
  | succ n ih =>
    intro p hp
    have h2 : ¬ (19 : Int32) ≤ nI p := by rw [show (19 : Int32) = nI 19 from rfl, nile (by omega) (by omega)]; omega
    have hs : (19 : Int32) * nI u + nI p = nI (19 * u + p) := by rw [show (19 : Int32) = nI 19 from rfl, pk_mul, nI_add]
    have hin : vp_in (nI p) 19 := vin (by omega) (by omega)
    have hin2 : vp_in (nI (19 * u + p)) 380 := vin (by omega) (by omega)
    have hcl : (nI p).toNatClampNeg = p := nic (by omega)
    have hcl2 : (nI (19 * u + p)).toNatClampNeg = 19 * u + p := nic (by omega)
    have hinc : nI p + 1 = nI (p + 1) := nI_1 p
    rw [eX10_undo_22]
    simp only [eX10_undo_23, eX10_undo_25, eX10_undo_28, eX10_undo_29, eX10_undo_32, eX10_undo_33, eX10_undo_34, eX10_undo_37, eX10_undo_39, eX10_undo_40, eX10_undo_43, eX10_undo_44, eX10_undo_45, eX10_undo_46, eX10_undo_47, eX10_undo_48, eX10_undo_51, fx0, fx1, fx2, fx3, fx4, nl_int, nl_ref, nl_none, nl_ti, rz_nil, rz_int, rz_ref, rz_long, cf1, cf2, Option.toList_some, Option.toList_none, List.cons_append, List.nil_append, su_at, su_ne, sr_eq, sr_ne, ne_eq, Nat.reduceEqDiff, not_false_eq_true, not_true_eq_false, if_true, if_false, h2, hu, hs, hin, hin2, hcl, hcl2, hinc, true_and]
    rw [pre_step (h := fun k => τ 122 (19 * u + k)) rfl]
    exact ih (p + 1) (by omega)
theorem m_undo {n : Nat} (hn : σ 109 26 = nI n) (hn0 : 0 < n) (hn20 : n ≤ 20) : Sem l (d + 1) 125 [.ref 109] σ (some (.int (nI (n - 1)))) (sr (su σ 109 26 (nI (n - 1))) 114 (pre 19 (fun k => σ 122 (19 * (n - 1) + k)) (σ 114))) := by
  refine Sem_of rfl (Nat.le_of_ble_eq_true rfl) ?_
  show aE l d none 10 cX10_undo (some .int) _ 0 [some (.ref 109), none] [] σ
  have hne : ¬ nI n = 0 := nI_ne0 hn0 (by omega)
  have hm : nI n - 1 = nI (n - 1) := by rw [show (1 : Int32) = nI 1 from rfl, pk_sub (by omega)]
  simp only [eX10_undo_0, eX10_undo_1, eX10_undo_4, eX10_undo_7, eX10_undo_9, eX10_undo_10, eX10_undo_11, eX10_undo_12, eX10_undo_15, eX10_undo_16, eX10_undo_17, eX10_undo_20, eX10_undo_21, fx0, fx1, fx2, fx3, fx4, nl_int, nl_ref, nl_none, nl_ti, rz_nil, rz_int, rz_ref, rz_long, cf1, cf2, Option.toList_some, Option.toList_none, List.cons_append, List.nil_append, hn, hne, hm, if_false]
  have := undo_loop (l := l) (d := d) (Q := fun r' σ'' => r' = some (.int (nI (n - 1))) ∧ σ'' = sr (su σ 109 26 (nI (n - 1))) 114 (pre 19 (fun k => σ 122 (19 * (n - 1) + k)) (σ 114))) (τ := su σ 109 26 (nI (n - 1))) (u := n - 1) (by simp only [su_at, su_ne, sr_eq, sr_ne, ne_eq, Nat.reduceEqDiff, not_false_eq_true, not_true_eq_false, if_true, if_false]) (by omega) ?_ 19 0 (by omega)
  · rw [pre_0, sr_self] at this
    exact this
  · simp only [eX10_undo_54, eX10_undo_55, eX10_undo_58, fx0, fx1, fx2, fx3, fx4, nl_int, nl_ref, nl_none, nl_ti, rz_nil, rz_int, rz_ref, rz_long, cf1, cf2, Option.toList_some, Option.toList_none, List.cons_append, List.nil_append, su_at, su_ne, sr_eq, sr_ne, ne_eq, Nat.reduceEqDiff, not_false_eq_true, not_true_eq_false, if_true, if_false, true_or, or_true, true_and, and_true, and_self]
theorem m_undo0 (hn : σ 109 26 = 0) : Sem l (d + 1) 125 [.ref 109] σ (some (.int (-1000000003))) σ := by
  refine Sem_of rfl (Nat.le_of_ble_eq_true rfl) ?_
  show aE l d none 10 cX10_undo (some .int) _ 0 [some (.ref 109), none] [] σ
  simp only [eX10_undo_0, eX10_undo_1, eX10_undo_4, eX10_undo_7, eX10_undo_9, fx0, fx1, fx2, fx3, fx4, nl_int, nl_ref, nl_none, nl_ti, rz_nil, rz_int, rz_ref, rz_long, cf1, cf2, Option.toList_some, Option.toList_none, List.cons_append, List.nil_append, hn, if_true, true_or, or_true, true_and, and_true, and_self]
def drM (v : Int32) : Int32 := ((v.toInt64 * 1103515245 + 12345) - (v.toInt64 * 1103515245 + 12345) / 2147483648 * 2147483648).toInt32
theorem m_draw {n : Int32} (hn : ¬ n = 0) : Sem l (d + 1) 123 [.ref 109, .int n] σ (some (.int (drM (σ 109 11) / 65536 - drM (σ 109 11) / 65536 / n * n))) (su σ 109 11 (drM (σ 109 11))) := by
  refine Sem_of rfl (Nat.le_of_ble_eq_true rfl) ?_
  show aE l d none 10 cX10_draw (some .int) _ 0 [some (.ref 109), some (.int n)] [] σ
  simp only [eX10_draw_0, eX10_draw_1, eX10_draw_2, eX10_draw_5, eX10_draw_6, eX10_draw_9, eX10_draw_10, eX10_draw_13, eX10_draw_14, eX10_draw_17, eX10_draw_18, eX10_draw_19, eX10_draw_22, eX10_draw_23, eX10_draw_26, eX10_draw_28, eX10_draw_29, eX10_draw_30, eX10_draw_31, fx0, fx1, fx2, fx3, fx4, nl_int, nl_ref, nl_none, nl_ti, rz_nil, rz_int, rz_ref, rz_long, cf1, cf2, Option.toList_some, Option.toList_none, List.cons_append, List.nil_append, su_at, su_ne, sr_eq, sr_ne, ne_eq, Nat.reduceEqDiff, not_false_eq_true, not_true_eq_false, if_true, if_false]
  exact ⟨by decide, by decide, hn, rfl, rfl⟩
theorem m_hoursRefused {n : Int32} : Sem l (d + 2) 121 [.ref 109, .int n] σ (some (.int (if inB n.toInt64 1 60 = 0 then -1000000002 else if σ 109 0 = 0 then -1000000003 else if σ 114 12 ≤ 90000 then 0 else -1000000004))) σ := by
  refine Sem_of rfl (Nat.le_of_ble_eq_true rfl) ?_
  show aE l (d + 1) none 10 cX10_hoursRefused (some .int) _ 0 [some (.ref 109), some (.int n)] [] σ
  simp only [eX10_hoursRefused_0, eX10_hoursRefused_1, eX10_hoursRefused_2, eX10_hoursRefused_3, eX10_hoursRefused_6, fx0, fx1, fx2, fx3, fx4, nl_int, nl_ref, nl_none, nl_ti, rz_nil, rz_int, rz_ref, rz_long, cf1, cf2, Option.toList_some, Option.toList_none, List.cons_append, List.nil_append]
  refine aC.of m_in ?_
  simp only [eX10_hoursRefused_9, eX10_hoursRefused_12, eX10_hoursRefused_14, eX10_hoursRefused_15, eX10_hoursRefused_16, eX10_hoursRefused_19, eX10_hoursRefused_22, eX10_hoursRefused_24, eX10_hoursRefused_27, eX10_hoursRefused_28, eX10_hoursRefused_31, eX10_hoursRefused_33, eX10_hoursRefused_34, eX10_hoursRefused_36, eX10_hoursRefused_39, eX10_hoursRefused_41, eX10_hoursRefused_44, eX10_hoursRefused_45, fx0, fx1, fx2, fx3, fx4, nl_int, nl_ref, nl_none, nl_ti, rz_nil, rz_int, rz_ref, rz_long, cf1, cf2, Option.toList_some, Option.toList_none, List.cons_append, List.nil_append, su_at, su_ne, sr_eq, sr_ne, ne_eq, Nat.reduceEqDiff, not_false_eq_true, not_true_eq_false, if_true, if_false, vi19, true_and]
  (repeat' split) <;> simp_all
end M3
