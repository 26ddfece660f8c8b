/-! State.passWatched, passResting on now (15) and terms (9) -/
def aw (f : Nat → Int32) (wt : Int32) : Nat → Int32 := fun q => f q + ((wt >>> (nI q &&& 31)) &&& 1)
def hN (w : Nat) (σ : aW) (set rung : Int32) : Int32 := nS σ 9 16 set rung w
def hU (w s : Nat) (σ : aW) (set rung : Int32) : Int32 := upS set (hN w σ set rung) (σ 14) s
def hW (w : Nat) (σ : aW) (set rung : Int32) : Int32 := set &&& (hN w σ set rung ^^^ (-1))
def remI (x y : Int32) : Int32 := x - x / y * y
def hourP (w s : Nat) (σ : aW) (set rung : Int32) (σ' : aW) : Prop :=
  (∀ c, c ≠ 15 → c ≠ 16 → c ≠ 17 → σ' c = σ c) ∧ (∀ q, q < w → σ' 16 q = tR σ 9 16 set rung q) ∧ (∀ q, q < 6 → σ' 17 q = aw (σ 17) (hW w σ set rung) q) ∧ σ' 15 0 = σ 15 0 + 1 ∧ σ' 15 1 = (if hW w σ set rung = 0 then σ 15 1 else mn 999999 (σ 15 1 + σ 9 1)) ∧ σ' 15 2 = mn 999999 (σ 15 2 + σ 9 2 * bc (hU w s σ set rung)) ∧ σ' 15 3 = hN w σ set rung ∧ σ' 15 4 = hU w s σ set rung ∧ σ' 15 5 = (if hW w σ set rung = 0 then σ 15 5 + 1 else σ 15 5) ∧ σ' 15 6 = (if remI (σ 15 0 + 1) (σ 9 0) = 0 then 0 else σ 15 6)
section PW
variable {l : Launch} {d : Nat} {σ : aW}
theorem pw_loop {Q : Option Value → aW → Prop} {τ : aW} {set rung wt : Int32} (hk : aE l d none 7 cX7_passWatched none Q 132 [some (.ref 15), some (.ref 9), some (.int set), some (.int rung), some (.int wt), some (.int (nI 6))] [] (sr τ 17 (pre 6 (aw (τ 17) wt) (τ 17)))) : ∀ n p, p + n = 6 → aE l d none 7 cX7_passWatched none Q 102 [some (.ref 15), some (.ref 9), some (.int set), some (.int rung), some (.int wt), some (.int (nI p))] [] (sr τ 17 (pre p (aw (τ 17) wt) (τ 17))) := by
  intro n
  induction n with
  | zero =>
    intro p hp
    have hp : p = 6 := by omega
    subst hp
    rw [eX7_passWatched_102]
    simp only [eX7_passWatched_104, eX7_passWatched_106, show (6 : Int32) ≤ nI 6 by decide, if_true]
    exact hk
  | succ n ih =>
    intro p hp
    have h2 : ¬ (6 : Int32) ≤ nI p := by rw [show (6 : Int32) = nI 6 from rfl, nile (by omega) (by omega)]; omega
    have hin : vp_in (nI p) 6 := vin (by omega) (by omega)
    have hcl : (nI p).toNatClampNeg = p := nic (by omega)
    have hinc : nI p + 1 = nI (p + 1) := nI_1 p
    rw [eX7_passWatched_102]
    simp only [eX7_passWatched_104, eX7_passWatched_106, eX7_passWatched_109, eX7_passWatched_110, eX7_passWatched_113, eX7_passWatched_115, eX7_passWatched_116, eX7_passWatched_117, eX7_passWatched_119, eX7_passWatched_121, eX7_passWatched_122, eX7_passWatched_123, eX7_passWatched_124, eX7_passWatched_125, eX7_passWatched_126, eX7_passWatched_129, fx0, fx1, fx2, fx3, fx4, nl_int, nl_ref, nl_none, nl_ti, rz_nil, rz_int, rz_ref, rz_long, cf1, cf2, Option.toList_some, Option.toList_none, List.cons_append, List.nil_append, h2, if_false, hin, hcl, hinc, true_and, sr_eq, pre_at]
    rw [show τ 17 p + (wt >>> (nI p &&& 31) &&& 1) = aw (τ 17) wt p from rfl, pre_step rfl]
    exact ih (p + 1) (by omega)
def pwE (τ : aW) (wt : Int32) : aW :=
  let τ2 := sr (su τ 15 2 (mn 999999 (τ 15 2 + τ 9 2 * bc (τ 15 4)))) 17 (pre 6 (aw (τ 17) wt) (τ 17))
  if τ 15 0 + 1 - (τ 15 0 + 1) / τ 9 0 * τ 9 0 = 0 then su (su τ2 15 0 (τ 15 0 + 1)) 15 6 0 else su τ2 15 0 (τ 15 0 + 1)
theorem pw73 {Q : Option Value → aW → Prop} {τ : aW} {set rung wt : Int32} (hH : ¬ τ 9 0 ≤ 0) (hQ : Q none (pwE τ wt)) : aE l (d + 1) none 7 cX7_passWatched none Q 73 [some (.ref 15), some (.ref 9), some (.int set), some (.int rung), some (.int wt), none] [] τ := by
  simp only [eX7_passWatched_73, eX7_passWatched_74, eX7_passWatched_76, eX7_passWatched_77, eX7_passWatched_80, eX7_passWatched_81, eX7_passWatched_84, eX7_passWatched_85, eX7_passWatched_88, fx0, fx1, fx2, fx3, fx4, nl_int, nl_ref, nl_none, nl_ti, rz_nil, rz_int, rz_ref, rz_long, cf1, cf2, Option.toList_some, Option.toList_none, List.cons_append, List.nil_append]
  refine aC.of c_bitCount ?_
  simp only [eX7_passWatched_91, eX7_passWatched_92, eX7_passWatched_93, eX7_passWatched_96, eX7_passWatched_99, eX7_passWatched_100, fx0, fx1, fx2, fx3, fx4, nl_int, nl_ref, nl_none, nl_ti, rz_nil, rz_int, rz_ref, rz_long, cf1, cf2, Option.toList_some, Option.toList_none, List.cons_append, List.nil_append]
  have hl := pw_loop (l := l) (d := d + 1) (Q := Q) (τ := su τ 15 2 (if τ 15 2 + τ 9 2 * bc (τ 15 4) < 999999 then τ 15 2 + τ 9 2 * bc (τ 15 4) else 999999)) (set := set) (rung := rung) (wt := wt) ?_ 6 0 (by omega)
  · rw [pre_0, sr_self] at hl
    exact hl
  · simp only [eX7_passWatched_132, eX7_passWatched_133, eX7_passWatched_134, fx0, fx1, fx2, fx3, fx4, nl_int, nl_ref, nl_none, nl_ti, rz_nil, rz_int, rz_ref, rz_long, cf1, cf2, Option.toList_some, Option.toList_none, List.cons_append, List.nil_append]
    refine aC.of (c_endHour isSt.now (Or.inr rfl) (by decide) (by simp only [su_at, su_ne, sr_eq, sr_ne, ne_eq, Nat.reduceEqDiff, not_false_eq_true, not_true_eq_false, if_true, if_false]; exact hH)) ?_
    simp only [eX7_passWatched_137, fx0, fx1, fx2, fx3, fx4, nl_int, nl_ref, nl_none, nl_ti, rz_nil, rz_int, rz_ref, rz_long, cf1, cf2, Option.toList_some, Option.toList_none, List.cons_append, List.nil_append, su_at, su_ne, sr_eq, sr_ne, ne_eq, Nat.reduceEqDiff, not_false_eq_true, not_true_eq_false, if_true, if_false]
    exact hQ
theorem c_passWatched {w s : Nat} (hw : σ 9 4 = nI w) (hw6 : w ≤ 6) (hs : σ 9 5 = nI s) (hs8 : s ≤ 8) (hH : ¬ σ 9 0 ≤ 0) {set rung : Int32} : aC l (d + 4) 46 [.ref 15, .ref 9, .int set, .int rung] σ (fun r σ' => r = none ∧ hourP w s σ set rung σ') := by
  refine aC_of rfl (Nat.le_of_ble_eq_true rfl) ?_
  show aE l (d + 3) none 7 cX7_passWatched none _ 0 [some (.ref 15), some (.ref 9), some (.int set), some (.int rung), none, none] [] σ
  simp only [eX7_passWatched_0, eX7_passWatched_1, eX7_passWatched_2, eX7_passWatched_3, eX7_passWatched_6, eX7_passWatched_7, eX7_passWatched_8, fx0, fx1, fx2, fx3, fx4, nl_int, nl_ref, nl_none, nl_ti, rz_nil, rz_int, rz_ref, rz_long, cf1, cf2, Option.toList_some, Option.toList_none, List.cons_append, List.nil_append]
  refine aC.of (c_spendHour (Or.inr rfl) (by decide +kernel) (by decide +kernel) (Or.inr (by decide)) hw hw6) ?_
  simp only [eX7_passWatched_11, eX7_passWatched_14, eX7_passWatched_15, eX7_passWatched_16, eX7_passWatched_17, eX7_passWatched_18, eX7_passWatched_21, fx0, fx1, fx2, fx3, fx4, nl_int, nl_ref, nl_none, nl_ti, rz_nil, rz_int, rz_ref, rz_long, cf1, cf2, Option.toList_some, Option.toList_none, List.cons_append, List.nil_append, su_eq]
  refine aC.of (c_allUp (w := s) (Or.inr rfl) ?_ hs8) ?_
  · simp only [su_at, su_ne, sr_eq, sr_ne, ne_eq, Nat.reduceEqDiff, not_false_eq_true, not_true_eq_false, if_true, if_false]; exact hs
  simp only [eX7_passWatched_24, eX7_passWatched_27, eX7_passWatched_28, eX7_passWatched_29, eX7_passWatched_32, eX7_passWatched_33, eX7_passWatched_34, eX7_passWatched_35, eX7_passWatched_37, eX7_passWatched_39, eX7_passWatched_42, eX7_passWatched_43, eX7_passWatched_44, eX7_passWatched_47, eX7_passWatched_48, eX7_passWatched_49, eX7_passWatched_52, eX7_passWatched_55, eX7_passWatched_56, eX7_passWatched_58, eX7_passWatched_59, eX7_passWatched_62, eX7_passWatched_63, eX7_passWatched_66, eX7_passWatched_67, eX7_passWatched_70, fx0, fx1, fx2, fx3, fx4, nl_int, nl_ref, nl_none, nl_ti, rz_nil, rz_int, rz_ref, rz_long, cf1, cf2, Option.toList_some, Option.toList_none, List.cons_append, List.nil_append, su_at, su_ne, sr_eq, sr_ne, ne_eq, Nat.reduceEqDiff, not_false_eq_true, not_true_eq_false, if_true, if_false]
  rw [show set &&& (nS σ 9 16 set rung w ^^^ -1) = hW w σ set rung from rfl]
  by_cases hz : hW w σ set rung = 0
  · rw [if_pos hz]
    refine pw73 (by simp only [su_at, su_ne, sr_eq, sr_ne, ne_eq, Nat.reduceEqDiff, not_false_eq_true, not_true_eq_false, if_true, if_false]; exact hH) ⟨rfl, ?_⟩
    unfold pwE hourP
    by_cases hr : σ 15 0 + 1 - (σ 15 0 + 1) / σ 9 0 * σ 9 0 = 0
    · simp only [su_at, su_ne, sr_eq, sr_ne, ne_eq, Nat.reduceEqDiff, not_false_eq_true, not_true_eq_false, if_true, if_false, hr, hz, remI]
      refine ⟨fun c h1 h2 h3 => ?_, fun q hq => ?_, fun q hq => ?_, (by first | trivial | rfl), (by first | trivial | rfl), (by first | trivial | rfl), (by first | trivial | rfl), (by first | trivial | rfl), (by first | trivial | rfl), (by first | trivial | rfl)⟩
      · simp only [su_ne h1, sr_ne h2, sr_ne h3]
      · simp only [pre, hq, if_true]
      · simp only [pre, hq, if_true]
    · simp only [su_at, su_ne, sr_eq, sr_ne, ne_eq, Nat.reduceEqDiff, not_false_eq_true, not_true_eq_false, if_true, if_false, hr, hz, remI]
      refine ⟨fun c h1 h2 h3 => ?_, fun q hq => ?_, fun q hq => ?_, (by first | trivial | rfl), (by first | trivial | rfl), (by first | trivial | rfl), (by first | trivial | rfl), (by first | trivial | rfl), (by first | trivial | rfl), (by first | trivial | rfl)⟩
      · simp only [su_ne h1, sr_ne h2, sr_ne h3]
      · simp only [pre, hq, if_true]
      · simp only [pre, hq, if_true]
  · rw [if_neg hz]
    refine pw73 (by simp only [su_at, su_ne, sr_eq, sr_ne, ne_eq, Nat.reduceEqDiff, not_false_eq_true, not_true_eq_false, if_true, if_false]; exact hH) ⟨rfl, ?_⟩
    unfold pwE hourP
    by_cases hr : σ 15 0 + 1 - (σ 15 0 + 1) / σ 9 0 * σ 9 0 = 0
    · simp only [su_at, su_ne, sr_eq, sr_ne, ne_eq, Nat.reduceEqDiff, not_false_eq_true, not_true_eq_false, if_true, if_false, hr, hz, remI]
      refine ⟨fun c h1 h2 h3 => ?_, fun q hq => ?_, fun q hq => ?_, (by first | trivial | rfl), (by first | trivial | rfl), (by first | trivial | rfl), (by first | trivial | rfl), (by first | trivial | rfl), (by first | trivial | rfl), (by first | trivial | rfl)⟩
      · simp only [su_ne h1, sr_ne h2, sr_ne h3]
      · simp only [pre, hq, if_true]
      · simp only [pre, hq, if_true]
    · simp only [su_at, su_ne, sr_eq, sr_ne, ne_eq, Nat.reduceEqDiff, not_false_eq_true, not_true_eq_false, if_true, if_false, hr, hz, remI]
      refine ⟨fun c h1 h2 h3 => ?_, fun q hq => ?_, fun q hq => ?_, (by first | trivial | rfl), (by first | trivial | rfl), (by first | trivial | rfl), (by first | trivial | rfl), (by first | trivial | rfl), (by first | trivial | rfl), (by first | trivial | rfl)⟩
      · simp only [su_ne h1, sr_ne h2, sr_ne h3]
      · simp only [pre, hq, if_true]
      · simp only [pre, hq, if_true]
def restP (w : Nat) (σ σ' : aW) : Prop :=
  (∀ c, c ≠ 15 → c ≠ 16 → σ' c = σ c) ∧ (∀ q, q < w → σ' 16 q = tR σ 9 16 0 0 q) ∧ σ' 15 0 = σ 15 0 + 1 ∧ σ' 15 1 = σ 15 1 ∧ σ' 15 2 = σ 15 2 ∧ σ' 15 3 = 0 ∧ σ' 15 4 = 0 ∧ σ' 15 5 = σ 15 5 ∧ σ' 15 6 = (if remI (σ 15 0 + 1) (σ 9 0) = 0 then 0 else σ 15 6)
theorem c_passResting {w : Nat} (hw : σ 9 4 = nI w) (hw6 : w ≤ 6) (hH : ¬ σ 9 0 ≤ 0) : aC l (d + 2) 47 [.ref 15, .ref 9] σ (fun r σ' => r = none ∧ restP w σ σ') := by
  refine aC_of rfl (Nat.le_of_ble_eq_true rfl) ?_
  show aE l (d + 1) none 7 cX7_passResting none _ 0 [some (.ref 15), some (.ref 9)] [] σ
  simp only [eX7_passResting_0, eX7_passResting_1, eX7_passResting_2, eX7_passResting_5, eX7_passResting_6, eX7_passResting_7, fx0, fx1, fx2, fx3, fx4, nl_int, nl_ref, nl_none, nl_ti, rz_nil, rz_int, rz_ref, rz_long, cf1, cf2, Option.toList_some, Option.toList_none, List.cons_append, List.nil_append]
  refine aC.of (c_spendHour (Or.inr rfl) (by decide +kernel) (by decide +kernel) (Or.inr (by decide)) hw hw6) ?_
  simp only [eX7_passResting_10, eX7_passResting_11, eX7_passResting_12, eX7_passResting_13, eX7_passResting_16, eX7_passResting_17, eX7_passResting_18, eX7_passResting_21, eX7_passResting_22, eX7_passResting_23, fx0, fx1, fx2, fx3, fx4, nl_int, nl_ref, nl_none, nl_ti, rz_nil, rz_int, rz_ref, rz_long, cf1, cf2, Option.toList_some, Option.toList_none, List.cons_append, List.nil_append]
  refine aC.of (c_endHour isSt.now (Or.inr rfl) (by decide) (by simp only [su_at, su_ne, sr_eq, sr_ne, ne_eq, Nat.reduceEqDiff, not_false_eq_true, not_true_eq_false, if_true, if_false]; exact hH)) ?_
  simp only [eX7_passResting_26, fx0, fx1, fx2, fx3, fx4, nl_int, nl_ref, nl_none, nl_ti, rz_nil, rz_int, rz_ref, rz_long, cf1, cf2, Option.toList_some, Option.toList_none, List.cons_append, List.nil_append, su_at, su_ne, sr_eq, sr_ne, ne_eq, Nat.reduceEqDiff, not_false_eq_true, not_true_eq_false, if_true, if_false]
  refine ⟨trivial, ?_⟩
  unfold restP
  by_cases hr : σ 15 0 + 1 - (σ 15 0 + 1) / σ 9 0 * σ 9 0 = 0
  · simp only [su_at, su_ne, sr_eq, sr_ne, ne_eq, Nat.reduceEqDiff, not_false_eq_true, not_true_eq_false, if_true, if_false, hr, remI]
    refine ⟨fun c h1 h2 => ?_, fun q hq => ?_, trivial, trivial, trivial, trivial, trivial, trivial, trivial⟩
    · simp only [su_ne h1, sr_ne h2]
    · simp only [pre, hq, if_true]
  · simp only [su_at, su_ne, sr_eq, sr_ne, ne_eq, Nat.reduceEqDiff, not_false_eq_true, not_true_eq_false, if_true, if_false, hr, remI]
    refine ⟨fun c h1 h2 => ?_, fun q hq => ?_, trivial, trivial, trivial, trivial, trivial, trivial, trivial⟩
    · simp only [su_ne h1, sr_ne h2]
    · simp only [pre, hq, if_true]
end PW
