/-! the reference: hourBy, remember, undo, rest, drift .. -/
def rng (a p : Nat) (h k : Nat → Int32) : Nat → Int32 := fun q => if a ≤ q ∧ q < a + p then h q else k q
theorem rng_0 (a : Nat) (h k : Nat → Int32) : rng a 0 h k = k := by funext q; unfold rng; exact if_neg (by omega)
theorem rng_at (a p : Nat) (h k : Nat → Int32) : rng a p h k (a + p) = k (a + p) := if_neg (by omega)
theorem rng_up (a p : Nat) (h k : Nat → Int32) : upd (rng a p h k) (a + p) (h (a + p)) = rng a (p + 1) h k := by
  funext q
  unfold upd rng
  by_cases e : q = a + p
  · subst e; rw [if_pos rfl, if_pos (by omega)]
  · rw [if_neg e]
    by_cases e2 : a ≤ q ∧ q < a + p
    · rw [if_pos e2, if_pos (by omega)]
    · rw [if_neg e2, if_neg (by omega)]
theorem rng_step {σ : aW} {t a p : Nat} {h k : Nat → Int32} {v : Int32} (hv : v = h (a + p)) : su (sr σ t (rng a p h k)) t (a + p) v = sr σ t (rng a (p + 1) h k) := by rw [su_sr, hv, rng_up]
def mN (w : Nat) (σ : aW) (set rung : Int32) : Int32 := mnS σ set rung w
def mU (w s : Nat) (σ : aW) (set rung : Int32) : Int32 := upS set (mN w σ set rung) (σ 113) s
def mW (w : Nat) (σ : aW) (set rung : Int32) : Int32 := set &&& (mN w σ set rung ^^^ (-1))
def mhP (w s : Nat) (σ : aW) (set rung : Int32) (σ' : aW) : Prop :=
  (∀ c, c ≠ 114 → σ' c = σ c) ∧ (∀ q, q < w → σ' 114 q = mtR σ set rung q) ∧ (∀ q, q < w → σ' 114 (6 + q) = σ 114 (6 + q) + hB (mW w σ set rung) (nI q)) ∧ (∀ q, w ≤ q → q < 6 → σ' 114 q = σ 114 q ∧ σ' 114 (6 + q) = σ 114 (6 + q)) ∧ σ' 114 12 = σ 114 12 + 1 ∧ σ' 114 13 = (if mW w σ set rung = 0 then σ 114 13 else mn 999999 (σ 114 13 + σ 109 1)) ∧ σ' 114 14 = mn 999999 (σ 114 14 + σ 109 2 * bitN (mU w s σ set rung) 8) ∧ σ' 114 15 = mN w σ set rung ∧ σ' 114 16 = mU w s σ set rung ∧ σ' 114 17 = (if mW w σ set rung = 0 then σ 114 17 + 1 else σ 114 17) ∧ σ' 114 18 = (if remI (σ 114 12 + 1) (σ 109 0) = 0 then 0 else σ 114 18)
section M2
variable {l : Launch} {d : Nat} {σ : aW}
theorem hb_up {Q : Option Value → aW → Prop} {τ : aW} {s : Nat} {set rung nd wt : Int32} (hs : τ 109 8 = nI s) (hs8 : s ≤ 8)
    (hk : aE l (d + 1) none 10 cX10_hourBy none Q 71 [some (.ref 109), some (.int set), some (.int rung), some (.int nd), some (.int wt), some (.int (upS set nd (τ 113) s)), some (.int (nI s))] [] τ) : ∀ n p, p + n = s → aE l (d + 1) none 10 cX10_hourBy none Q 28 [some (.ref 109), some (.int set), some (.int rung), some (.int nd), some (.int wt), some (.int (upS set nd (τ 113) p)), some (.int (nI p))] [] τ := by
  intro n
  induction n with
  | zero =>
    intro p hp
    have hp : p = s := by omega
    subst hp
    have h1 : nI p ≤ nI p := (nile (by omega) (by omega)).mpr (Nat.le_refl p)
    rw [eX10_hourBy_28]
    simp only [eX10_hourBy_30, eX10_hourBy_31, eX10_hourBy_34, fx0, fx1, fx2, fx3, fx4, nl_int, nl_ref, nl_none, nl_ti, rz_nil, rz_int, rz_ref, rz_long, cf1, cf2, Option.toList_some, Option.toList_none, List.cons_append, List.nil_append, hs, h1, if_true]
    exact hk
  | succ n ih =>
    intro p hp
    have h1 : ¬ nI s ≤ nI p := by rw [nile (by omega) (by omega)]; omega
    have hin : vp_in (nI p) 8 := vin (by omega) (by omega)
    have hcl : (nI p).toNatClampNeg = p := nic (by omega)
    have hinc : nI p + 1 = nI (p + 1) := nI_1 p
    rw [eX10_hourBy_28]
    simp only [eX10_hourBy_30, eX10_hourBy_31, eX10_hourBy_34, eX10_hourBy_37, eX10_hourBy_39, eX10_hourBy_40, eX10_hourBy_43, eX10_hourBy_45, eX10_hourBy_46, eX10_hourBy_47, eX10_hourBy_48, fx0, fx1, fx2, fx3, fx4, nl_int, nl_ref, nl_none, nl_ti, rz_nil, rz_int, rz_ref, rz_long, cf1, cf2, Option.toList_some, Option.toList_none, List.cons_append, List.nil_append, hs, h1, if_false, hin, hcl, true_and]
    refine aC.of m_sitsUp ?_
    have := ih (p + 1) (by omega)
    simp only [upS] at this
    unfold sU
    by_cases hc : (if τ 113 p &&& set = 0 then set else τ 113 p &&& set) &&& (nd ^^^ (-1)) = 0
    · simp only [hc, if_true] at this
      simp only [hc, if_true, hinc, eX10_hourBy_51, eX10_hourBy_54, eX10_hourBy_55, eX10_hourBy_57, eX10_hourBy_58, eX10_hourBy_61, eX10_hourBy_62, eX10_hourBy_63, eX10_hourBy_65, eX10_hourBy_68, fx0, fx1, fx2, fx3, fx4, nl_int, nl_ref, nl_none, nl_ti, rz_nil, rz_int, rz_ref, rz_long, cf1, cf2, Option.toList_some, Option.toList_none, List.cons_append, List.nil_append, show ¬ (1 : Int32) = 0 by decide, if_false]
      exact this
    · simp only [hc, if_false] at this
      simp only [hc, if_false, if_true, hinc, eX10_hourBy_51, eX10_hourBy_54, eX10_hourBy_55, eX10_hourBy_57, eX10_hourBy_58, eX10_hourBy_61, eX10_hourBy_62, eX10_hourBy_63, eX10_hourBy_65, eX10_hourBy_68, fx0, fx1, fx2, fx3, fx4, nl_int, nl_ref, nl_none, nl_ti, rz_nil, rz_int, rz_ref, rz_long, cf1, cf2, Option.toList_some, Option.toList_none, List.cons_append, List.nil_append, Int32.or_zero]
      exact this
theorem hb_aw {Q : Option Value → aW → Prop} {τ : aW} {w : Nat} {set rung nd wt up : Int32} (hw : τ 109 4 = nI w) (hw6 : w ≤ 6)
    (hk : aE l (d + 1) none 10 cX10_hourBy none Q 120 [some (.ref 109), some (.int set), some (.int rung), some (.int nd), some (.int wt), some (.int up), some (.int (nI w))] [] (sr τ 114 (rng 6 w (fun k => τ 114 k + hB (set &&& (nd ^^^ (-1))) (nI (k - 6))) (τ 114)))) : ∀ n p, p + n = w → aE l (d + 1) none 10 cX10_hourBy none Q 74 [some (.ref 109), some (.int set), some (.int rung), some (.int nd), some (.int wt), some (.int up), some (.int (nI p))] [] (sr τ 114 (rng 6 p (fun k => τ 114 k + hB (set &&& (nd ^^^ (-1))) (nI (k - 6))) (τ 114))) := by
  intro n
  induction n with
  | zero =>
    intro p hp
    have hp : p = w := by omega
    subst hp
    have h1 : nI p ≤ nI p := (nile (by omega) (by omega)).mpr (Nat.le_refl p)
    rw [eX10_hourBy_74]
    simp only [eX10_hourBy_76, eX10_hourBy_77, eX10_hourBy_80, fx0, fx1, fx2, fx3, fx4, nl_int, nl_ref, nl_none, nl_ti, rz_nil, rz_int, rz_ref, rz_long, cf1, cf2, Option.toList_some, Option.toList_none, List.cons_append, List.nil_append, su_at, su_ne, sr_eq, sr_ne, ne_eq, Nat.reduceEqDiff, not_false_eq_true, not_true_eq_false, if_true, if_false, hw, h1]
    exact hk
  | succ n ih =>
    intro p hp
    have h1 : ¬ nI w ≤ nI p := by rw [nile (by omega) (by omega)]; omega
    have h6 : (6 : Int32) + nI p = nI (6 + p) := nI_add 6 p
    have hin : vp_in (nI (6 + p)) 19 := vin (by omega) (by omega)
    have hcl : (nI (6 + p)).toNatClampNeg = 6 + p := nic (by omega)
    have hinc : nI p + 1 = nI (p + 1) := nI_1 p
    rw [eX10_hourBy_74]
    simp only [eX10_hourBy_76, eX10_hourBy_77, eX10_hourBy_80, eX10_hourBy_83, eX10_hourBy_84, eX10_hourBy_87, eX10_hourBy_89, eX10_hourBy_91, eX10_hourBy_92, eX10_hourBy_93, eX10_hourBy_94, eX10_hourBy_95, eX10_hourBy_96, eX10_hourBy_97, eX10_hourBy_98, eX10_hourBy_99, eX10_hourBy_101, fx0, fx1, fx2, fx3, fx4, nl_int, nl_ref, nl_none, nl_ti, rz_nil, rz_int, rz_ref, rz_long, cf1, cf2, Option.toList_some, Option.toList_none, List.cons_append, List.nil_append, su_at, su_ne, sr_eq, sr_ne, ne_eq, Nat.reduceEqDiff, not_false_eq_true, not_true_eq_false, if_true, if_false, hw, h1, h6, hin, hcl, true_and, rng_at]
    refine aC.of m_has ?_
    have hz : ∀ b : Int32, (b = 0 ∨ b = 1) → aE l (d + 1) none 10 cX10_hourBy none Q 104 [some (.ref 109), some (.int set), some (.int rung), some (.int nd), some (.int wt), some (.int up), some (.int (nI p))] [.int b, .int (τ 114 (6 + p)), .int (nI (6 + p)), .ref 114] (sr τ 114 (rng 6 p (fun k => τ 114 k + hB (set &&& (nd ^^^ (-1))) (nI (k - 6))) (τ 114))) = aE l (d + 1) none 10 cX10_hourBy none Q 74 [some (.ref 109), some (.int set), some (.int rung), some (.int nd), some (.int wt), some (.int up), some (.int (nI (p + 1)))] [] (su (sr τ 114 (rng 6 p (fun k => τ 114 k + hB (set &&& (nd ^^^ (-1))) (nI (k - 6))) (τ 114))) 114 (6 + p) (τ 114 (6 + p) + b)) := by
      intro b hb
      rcases hb with rfl | rfl
      · simp only [eX10_hourBy_104, eX10_hourBy_107, eX10_hourBy_108, eX10_hourBy_111, eX10_hourBy_112, eX10_hourBy_113, eX10_hourBy_114, eX10_hourBy_117, fx0, fx1, fx2, fx3, fx4, nl_int, nl_ref, nl_none, nl_ti, rz_nil, rz_int, rz_ref, rz_long, cf1, cf2, Option.toList_some, Option.toList_none, List.cons_append, List.nil_append, su_at, su_ne, sr_eq, sr_ne, ne_eq, Nat.reduceEqDiff, not_false_eq_true, not_true_eq_false, if_true, if_false, hin, hcl, hinc, true_and]
      · simp only [eX10_hourBy_104, eX10_hourBy_107, eX10_hourBy_108, eX10_hourBy_111, eX10_hourBy_112, eX10_hourBy_113, eX10_hourBy_114, eX10_hourBy_117, fx0, fx1, fx2, fx3, fx4, nl_int, nl_ref, nl_none, nl_ti, rz_nil, rz_int, rz_ref, rz_long, cf1, cf2, Option.toList_some, Option.toList_none, List.cons_append, List.nil_append, su_at, su_ne, sr_eq, sr_ne, ne_eq, Nat.reduceEqDiff, not_false_eq_true, not_true_eq_false, if_true, if_false, hin, hcl, hinc, true_and, show ¬ (1 : Int32) = 0 by decide]
    simp only [fx0, fx1, fx2, fx3, fx4, nl_int, nl_ref, nl_none, nl_ti, rz_nil, rz_int, rz_ref, rz_long, cf1, cf2, Option.toList_some, Option.toList_none, List.cons_append, List.nil_append]
    rw [hz _ (by unfold hB; split <;> simp), rng_step (h := fun k => τ 114 k + hB (set &&& (nd ^^^ (-1))) (nI (k - 6))) (by show _ = _ + hB _ (nI (6 + p - 6)); rw [Nat.add_sub_cancel_left])]
    exact ih (p + 1) (by omega)
theorem m_hourBy {w s : Nat} {set rung : Int32} (hw : σ 109 4 = nI w) (hw6 : w ≤ 6) (hs : σ 109 8 = nI s) (hs8 : s ≤ 8) (hH : ¬ σ 109 0 = 0) : aC l (d + 3) 117 [.ref 109, .int set, .int rung] σ (fun r σ' => r = none ∧ mhP w s σ set rung σ') := by
  refine aC_of rfl (Nat.le_of_ble_eq_true rfl) ?_
  show aE l (d + 2) none 10 cX10_hourBy none _ 0 [some (.ref 109), some (.int set), some (.int rung), none, none, none, none] [] σ
  simp only [eX10_hourBy_0, eX10_hourBy_1, eX10_hourBy_2, eX10_hourBy_3, fx0, fx1, fx2, fx3, fx4, nl_int, nl_ref, nl_none, nl_ti, rz_nil, rz_int, rz_ref, rz_long, cf1, cf2, Option.toList_some, Option.toList_none, List.cons_append, List.nil_append]
  refine aC.of (m_tire hw hw6) ?_
  simp only [eX10_hourBy_6, eX10_hourBy_7, eX10_hourBy_8, eX10_hourBy_9, eX10_hourBy_10, eX10_hourBy_11, eX10_hourBy_12, fx0, fx1, fx2, fx3, fx4, nl_int, nl_ref, nl_none, nl_ti, rz_nil, rz_int, rz_ref, rz_long, cf1, cf2, Option.toList_some, Option.toList_none, List.cons_append, List.nil_append]
  rw [show set &&& (mnS σ set rung w ^^^ -1) = mW w σ set rung from rfl]
  have key : ∀ wt : Int32, wt = (if mW w σ set rung = 0 then 0 else 1) → aE l (d + 2) none 10 cX10_hourBy none (fun r σ' => r = none ∧ mhP w s σ set rung σ') 28 [some (.ref 109), some (.int set), some (.int rung), some (.int (mnS σ set rung w)), some (.int wt), some (.int 0), some (.int 0)] [] (sr σ 114 (pre w (mtR σ set rung) (σ 114))) := by
    intro wt hwt
    refine hb_up (d := d + 1) (τ := sr σ 114 (pre w (mtR σ set rung) (σ 114))) (s := s) (by simp only [su_at, su_ne, sr_eq, sr_ne, ne_eq, Nat.reduceEqDiff, not_false_eq_true, not_true_eq_false, if_true, if_false]; exact hs) hs8 ?_ s 0 (by omega)
    simp only [eX10_hourBy_71, eX10_hourBy_72, fx0, fx1, fx2, fx3, fx4, nl_int, nl_ref, nl_none, nl_ti, rz_nil, rz_int, rz_ref, rz_long, cf1, cf2, Option.toList_some, Option.toList_none, List.cons_append, List.nil_append, su_at, su_ne, sr_eq, sr_ne, ne_eq, Nat.reduceEqDiff, not_false_eq_true, not_true_eq_false, if_true, if_false]
    have haw := hb_aw (l := l) (d := d + 1) (Q := fun r σ' => r = none ∧ mhP w s σ set rung σ') (τ := sr σ 114 (pre w (mtR σ set rung) (σ 114))) (w := w) (set := set) (rung := rung) (nd := mnS σ set rung w) (wt := wt) (up := upS set (mnS σ set rung w) (σ 113) s) (by simp only [su_at, su_ne, sr_eq, sr_ne, ne_eq, Nat.reduceEqDiff, not_false_eq_true, not_true_eq_false, if_true, if_false]; exact hw) hw6 ?_ w 0 (by omega)
    · rw [rng_0, sr_self] at haw
      exact haw
    · have hkey : ∀ v13 v17 : Int32, v13 = (if mW w σ set rung = 0 then σ 114 13 else mn 999999 (σ 114 13 + σ 109 1)) → v17 = (if mW w σ set rung = 0 then σ 114 17 + 1 else σ 114 17) → mhP w s σ set rung (su (su (su (su (su (su (su (sr (sr σ 114 (pre w (mtR σ set rung) (σ 114))) 114 (rng 6 w (fun k => sr σ 114 (pre w (mtR σ set rung) (σ 114)) 114 k + hB (set &&& (mnS σ set rung w ^^^ -1)) (nI (k - 6))) (sr σ 114 (pre w (mtR σ set rung) (σ 114)) 114))) 114 13 v13) 114 14 (mn 999999 (σ 114 14 + σ 109 2 * bitN (upS set (mnS σ set rung w) (σ 113) s) 8))) 114 15 (mnS σ set rung w)) 114 16 (upS set (mnS σ set rung w) (σ 113) s)) 114 17 v17) 114 12 (σ 114 12 + 1)) 114 18 (if remI (σ 114 12 + 1) (σ 109 0) = 0 then 0 else σ 114 18)) := by
        intro v13 v17 h13 h17
        unfold mhP
        simp only [su_at, su_ne, sr_eq, sr_ne, ne_eq, Nat.reduceEqDiff, not_false_eq_true, not_true_eq_false, if_true, if_false, h13, h17]
        refine ⟨fun c hc => ?_, fun q hq => ?_, fun q hq => ?_, fun q hq hq6 => ⟨?_, ?_⟩, trivial, trivial, rfl, rfl, rfl, trivial, trivial⟩
        · simp only [su_ne hc, sr_ne hc]
        · simp only [show q ≠ 18 by omega, show q ≠ 12 by omega, show q ≠ 17 by omega, show q ≠ 16 by omega, show q ≠ 15 by omega, show q ≠ 14 by omega, show q ≠ 13 by omega, if_false, rng, pre, hq, if_true]
          rw [if_neg (by omega)]
        · simp only [show 6 + q ≠ 18 by omega, show 6 + q ≠ 12 by omega, show 6 + q ≠ 17 by omega, show 6 + q ≠ 16 by omega, show 6 + q ≠ 15 by omega, show 6 + q ≠ 14 by omega, show 6 + q ≠ 13 by omega, if_false, rng, pre]
          rw [if_pos (by omega), if_neg (by omega), Nat.add_sub_cancel_left]
          rfl
        · simp only [show q ≠ 18 by omega, show q ≠ 12 by omega, show q ≠ 17 by omega, show q ≠ 16 by omega, show q ≠ 15 by omega, show q ≠ 14 by omega, show q ≠ 13 by omega, if_false, rng, pre]
          rw [if_neg (by omega), if_neg (by omega)]
        · simp only [show 6 + q ≠ 18 by omega, show 6 + q ≠ 12 by omega, show 6 + q ≠ 17 by omega, show 6 + q ≠ 16 by omega, show 6 + q ≠ 15 by omega, show 6 + q ≠ 14 by omega, show 6 + q ≠ 13 by omega, if_false, rng, pre]
          rw [if_neg (by omega), if_neg (by omega)]
      generalize hτ : sr (sr σ 114 (pre w (mtR σ set rung) (σ 114))) 114 (rng 6 w (fun k => sr σ 114 (pre w (mtR σ set rung) (σ 114)) 114 k + hB (set &&& (mnS σ set rung w ^^^ -1)) (nI (k - 6))) (sr σ 114 (pre w (mtR σ set rung) (σ 114)) 114)) = τ at hkey ⊢
      have hq : ∀ q, 12 ≤ q → τ 114 q = σ 114 q := by
        intro q hq
        rw [← hτ]
        simp only [su_at, su_ne, sr_eq, sr_ne, ne_eq, Nat.reduceEqDiff, not_false_eq_true, not_true_eq_false, if_true, if_false, rng, pre]
        rw [if_neg (by omega), if_neg (by omega)]
      have h109 : τ 109 = σ 109 := by
        rw [← hτ]
        simp only [su_at, su_ne, sr_eq, sr_ne, ne_eq, Nat.reduceEqDiff, not_false_eq_true, not_true_eq_false, if_true, if_false]
      have q12 := hq 12 (by decide)
      have q13 := hq 13 (by decide)
      have q14 := hq 14 (by decide)
      have q17 := hq 17 (by decide)
      have q18 := hq 18 (by decide)
      by_cases hz : mW w σ set rung = 0
      · rw [if_pos hz] at hwt
        subst hwt
        simp only [eX10_hourBy_120, eX10_hourBy_121, eX10_hourBy_124, eX10_hourBy_126, eX10_hourBy_128, eX10_hourBy_131, eX10_hourBy_132, eX10_hourBy_135, eX10_hourBy_137, eX10_hourBy_138, eX10_hourBy_139, eX10_hourBy_142, eX10_hourBy_143, eX10_hourBy_145, eX10_hourBy_148, eX10_hourBy_151, eX10_hourBy_152, eX10_hourBy_155, eX10_hourBy_157, eX10_hourBy_158, eX10_hourBy_159, eX10_hourBy_160, eX10_hourBy_163, eX10_hourBy_165, eX10_hourBy_166, eX10_hourBy_169, eX10_hourBy_171, eX10_hourBy_172, eX10_hourBy_173, eX10_hourBy_176, eX10_hourBy_178, fx0, fx1, fx2, fx3, fx4, nl_int, nl_ref, nl_none, nl_ti, rz_nil, rz_int, rz_ref, rz_long, cf1, cf2, Option.toList_some, Option.toList_none, List.cons_append, List.nil_append, su_at, su_ne, sr_eq, sr_ne, ne_eq, Nat.reduceEqDiff, not_false_eq_true, not_true_eq_false, if_true, if_false, vi19, q12, q13, q14, q17, q18, h109, true_and]
        refine aC.of m_bits ?_
        simp only [eX10_hourBy_181, eX10_hourBy_182, eX10_hourBy_183, eX10_hourBy_185, fx0, fx1, fx2, fx3, fx4, nl_int, nl_ref, nl_none, nl_ti, rz_nil, rz_int, rz_ref, rz_long, cf1, cf2, Option.toList_some, Option.toList_none, List.cons_append, List.nil_append, su_at, su_ne, sr_eq, sr_ne, ne_eq, Nat.reduceEqDiff, not_false_eq_true, not_true_eq_false, if_true, if_false, vi19, q12, q13, q14, q17, q18, h109, true_and]
        refine aC.of m_atMost ?_
        simp only [eX10_hourBy_188, eX10_hourBy_189, eX10_hourBy_190, eX10_hourBy_193, eX10_hourBy_195, eX10_hourBy_196, eX10_hourBy_197, eX10_hourBy_198, eX10_hourBy_201, eX10_hourBy_203, eX10_hourBy_205, eX10_hourBy_206, eX10_hourBy_207, eX10_hourBy_210, eX10_hourBy_212, eX10_hourBy_213, eX10_hourBy_214, eX10_hourBy_216, eX10_hourBy_219, eX10_hourBy_220, eX10_hourBy_223, eX10_hourBy_224, eX10_hourBy_225, eX10_hourBy_226, eX10_hourBy_227, fx0, fx1, fx2, fx3, fx4, nl_int, nl_ref, nl_none, nl_ti, rz_nil, rz_int, rz_ref, rz_long, cf1, cf2, Option.toList_some, Option.toList_none, List.cons_append, List.nil_append, su_at, su_ne, sr_eq, sr_ne, ne_eq, Nat.reduceEqDiff, not_false_eq_true, not_true_eq_false, if_true, if_false, vi19, q12, q13, q14, q17, q18, h109, true_and]
        refine aC.of (m_passHour (by simp only [su_at, su_ne, sr_eq, sr_ne, ne_eq, Nat.reduceEqDiff, not_false_eq_true, not_true_eq_false, if_true, if_false, h109]; exact hH)) ?_
        simp only [eX10_hourBy_230, fx0, fx1, fx2, fx3, fx4, nl_int, nl_ref, nl_none, nl_ti, rz_nil, rz_int, rz_ref, rz_long, cf1, cf2, Option.toList_some, Option.toList_none, List.cons_append, List.nil_append, su_at, su_ne, sr_eq, sr_ne, ne_eq, Nat.reduceEqDiff, not_false_eq_true, not_true_eq_false, if_true, if_false, q12, q13, q14, q17, q18, h109, true_and]
        exact hkey _ _ (by rw [if_pos hz]) (by rw [if_pos hz])
      · rw [if_neg hz] at hwt
        subst hwt
        simp only [eX10_hourBy_120, eX10_hourBy_121, eX10_hourBy_124, eX10_hourBy_126, eX10_hourBy_128, eX10_hourBy_131, eX10_hourBy_132, eX10_hourBy_135, eX10_hourBy_137, eX10_hourBy_138, eX10_hourBy_139, eX10_hourBy_142, eX10_hourBy_143, eX10_hourBy_145, fx0, fx1, fx2, fx3, fx4, nl_int, nl_ref, nl_none, nl_ti, rz_nil, rz_int, rz_ref, rz_long, cf1, cf2, Option.toList_some, Option.toList_none, List.cons_append, List.nil_append, su_at, su_ne, sr_eq, sr_ne, ne_eq, Nat.reduceEqDiff, not_false_eq_true, not_true_eq_false, if_true, if_false, vi19, q12, q13, q14, q17, q18, h109, true_and, show ¬ (1 : Int32) = 0 by decide]
        refine aC.of m_atMost ?_
        simp only [eX10_hourBy_148, eX10_hourBy_151, eX10_hourBy_152, eX10_hourBy_155, eX10_hourBy_157, eX10_hourBy_158, eX10_hourBy_159, eX10_hourBy_160, eX10_hourBy_163, eX10_hourBy_165, eX10_hourBy_166, eX10_hourBy_169, eX10_hourBy_171, eX10_hourBy_172, eX10_hourBy_173, eX10_hourBy_176, eX10_hourBy_178, fx0, fx1, fx2, fx3, fx4, nl_int, nl_ref, nl_none, nl_ti, rz_nil, rz_int, rz_ref, rz_long, cf1, cf2, Option.toList_some, Option.toList_none, List.cons_append, List.nil_append, su_at, su_ne, sr_eq, sr_ne, ne_eq, Nat.reduceEqDiff, not_false_eq_true, not_true_eq_false, if_true, if_false, vi19, q12, q13, q14, q17, q18, h109, true_and]
        refine aC.of m_bits ?_
        simp only [eX10_hourBy_181, eX10_hourBy_182, eX10_hourBy_183, eX10_hourBy_185, fx0, fx1, fx2, fx3, fx4, nl_int, nl_ref, nl_none, nl_ti, rz_nil, rz_int, rz_ref, rz_long, cf1, cf2, Option.toList_some, Option.toList_none, List.cons_append, List.nil_append, su_at, su_ne, sr_eq, sr_ne, ne_eq, Nat.reduceEqDiff, not_false_eq_true, not_true_eq_false, if_true, if_false, vi19, q12, q13, q14, q17, q18, h109, true_and]
        refine aC.of m_atMost ?_
        simp only [eX10_hourBy_188, eX10_hourBy_189, eX10_hourBy_190, eX10_hourBy_193, eX10_hourBy_195, eX10_hourBy_196, eX10_hourBy_197, eX10_hourBy_198, eX10_hourBy_201, eX10_hourBy_203, eX10_hourBy_205, eX10_hourBy_206, eX10_hourBy_207, eX10_hourBy_210, eX10_hourBy_212, eX10_hourBy_213, eX10_hourBy_214, eX10_hourBy_216, eX10_hourBy_219, eX10_hourBy_220, eX10_hourBy_223, eX10_hourBy_224, eX10_hourBy_225, eX10_hourBy_226, eX10_hourBy_227, fx0, fx1, fx2, fx3, fx4, nl_int, nl_ref, nl_none, nl_ti, rz_nil, rz_int, rz_ref, rz_long, cf1, cf2, Option.toList_some, Option.toList_none, List.cons_append, List.nil_append, su_at, su_ne, sr_eq, sr_ne, ne_eq, Nat.reduceEqDiff, not_false_eq_true, not_true_eq_false, if_true, if_false, vi19, q12, q13, q14, q17, q18, h109, true_and, show ¬ (1 : Int32) = 0 by decide, Int32.add_zero]
        refine aC.of (m_passHour (by simp only [su_at, su_ne, sr_eq, sr_ne, ne_eq, Nat.reduceEqDiff, not_false_eq_true, not_true_eq_false, if_true, if_false, h109]; exact hH)) ?_
        simp only [eX10_hourBy_230, fx0, fx1, fx2, fx3, fx4, nl_int, nl_ref, nl_none, nl_ti, rz_nil, rz_int, rz_ref, rz_long, cf1, cf2, Option.toList_some, Option.toList_none, List.cons_append, List.nil_append, su_at, su_ne, sr_eq, sr_ne, ne_eq, Nat.reduceEqDiff, not_false_eq_true, not_true_eq_false, if_true, if_false, q12, q13, q14, q17, q18, h109, true_and]
        exact hkey _ _ (by rw [if_neg hz]) (by rw [if_neg hz])
  have k0 := key 0
  have k1 := key 1
  simp only [eX10_hourBy_15, eX10_hourBy_16, eX10_hourBy_19, eX10_hourBy_20, eX10_hourBy_22, eX10_hourBy_23, eX10_hourBy_25, eX10_hourBy_26, fx0, fx1, fx2, fx3, fx4, nl_int, nl_ref, nl_none, nl_ti, rz_nil, rz_int, rz_ref, rz_long, cf1, cf2, Option.toList_some, Option.toList_none, List.cons_append, List.nil_append]
  split
  · next h => exact k0 (by rw [if_pos h])
  · next h => exact k1 (by rw [if_neg h])
end M2
