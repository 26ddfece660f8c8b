/-! the reference (109): small functions, an hour -/
def inB (x y z : Int64) : Int32 := if x < y then 0 else if z < x then 0 else 1
theorem lgc_lt (x y : Int64) : (lg_cmp x y < 0) = (x < y) := by
  unfold lg_cmp
  by_cases h1 : x > y
  · rw [if_pos h1]
    have : ¬ x < y := Int64.not_lt.mpr (Int64.le_of_lt h1)
    simp [this]
  · rw [if_neg h1]
    by_cases h2 : x = y
    · subst h2; simp
    · rw [if_neg h2]
      have : x < y := by
        have h1 : ¬ y < x := h1
        rw [Int64.lt_iff_toInt_lt] at h1 ⊢
        have : x.toInt ≠ y.toInt := fun e => h2 (Int64.toInt_inj.mp e)
        omega
      simp [this]
theorem lgc_gt (x y : Int64) : (0 < lg_cmp x y) = (y < x) := by
  unfold lg_cmp
  by_cases h1 : x > y
  · rw [if_pos h1]
    have h1 : y < x := h1
    simp [h1]
  · rw [if_neg h1]
    have h1 : ¬ y < x := h1
    by_cases h2 : x = y
    · subst h2; simp
    · rw [if_neg h2]
      simp [h1]
def hB (set k : Int32) : Int32 := if (set >>> (k &&& 31)) &&& 1 = 1 then 1 else 0
def bitN (x : Int32) : Nat → Int32
  | 0 => 0
  | n + 1 => bitN x n + ((x >>> (nI n &&& 31)) &&& 1)
def mx (m v : Int32) : Int32 := if m < v then v else m
def sU (g set nods : Int32) : Int32 := if (if g &&& set = 0 then set else g &&& set) &&& (nods ^^^ (-1)) = 0 then 1 else 0
def mnS (σ : aW) (set rung : Int32) : Nat → Int32 := nodS set rung (σ 109 3) (σ 110) (σ 111) (σ 112) (σ 114)
def mtR (σ : aW) (set rung : Int32) : Nat → Int32 := fun q => tE set rung (σ 109 3) (σ 110 q) (σ 111 q) (σ 114 q) q
theorem bit01 (x : Int32) : x &&& 1 = 0 ∨ x &&& 1 = 1 := by
  obtain ⟨j, hj, e⟩ := pk_andE x (m := 1) 1 (by decide)
  rw [e]
  rcases (show j = 0 ∨ j = 1 by omega) with rfl | rfl
  · exact Or.inl rfl
  · exact Or.inr rfl
theorem vi19 : vp_in 12 19 ∧ vp_in 13 19 ∧ vp_in 14 19 ∧ vp_in 15 19 ∧ vp_in 16 19 ∧ vp_in 17 19 ∧ vp_in 18 19 := ⟨vin (n := 12) (by decide) (by decide), vin (n := 13) (by decide) (by decide), vin (n := 14) (by decide) (by decide), vin (n := 15) (by decide) (by decide), vin (n := 16) (by decide) (by decide), vin (n := 17) (by decide) (by decide), vin (n := 18) (by decide) (by decide)⟩
section M1
variable {l : Launch} {d : Nat} {σ : aW}
theorem m_in {x y z : Int64} : Sem l (d + 1) 91 [.long x, .long y, .long z] σ (some (.int (inB x y z))) σ := by
  refine Sem_of rfl (Nat.le_of_ble_eq_true rfl) ?_
  show aE l d none 10 cX10_in (some .boolean) _ 0 [some (.long x), none, some (.long y), none, some (.long z), none] [] σ
  simp only [eX10_in_0, eX10_in_1, eX10_in_2, eX10_in_3, eX10_in_6, eX10_in_7, eX10_in_9, eX10_in_10, eX10_in_13, eX10_in_14, eX10_in_17, eX10_in_18, fx0, fx1, fx2, fx3, fx4, nl_int, nl_ref, nl_none, nl_ti, rz_nil, rz_int, rz_ref, rz_long, cf1, cf2, Option.toList_some, Option.toList_none, List.cons_append, List.nil_append, lgc_lt, lgc_gt, inB]
  (repeat' split) <;> simp_all
theorem m_has {x k : Int32} : Sem l (d + 1) 92 [.int x, .int k] σ (some (.int (hB x k))) σ := by
  refine Sem_of rfl (Nat.le_of_ble_eq_true rfl) ?_
  show aE l d none 10 cX10_has (some .boolean) _ 0 [some (.int x), some (.int k)] [] σ
  simp only [eX10_has_0, eX10_has_1, eX10_has_2, eX10_has_3, eX10_has_4, eX10_has_5, eX10_has_6, eX10_has_9, eX10_has_10, eX10_has_13, eX10_has_14, fx0, fx1, fx2, fx3, fx4, nl_int, nl_ref, nl_none, nl_ti, rz_nil, rz_int, rz_ref, rz_long, cf1, cf2, Option.toList_some, Option.toList_none, List.cons_append, List.nil_append, hB]
  (repeat' split) <;> simp_all
theorem m_atMost {v m : Int32} : Sem l (d + 1) 94 [.int v, .int m] σ (some (.int (mn m v))) σ := by
  refine Sem_of rfl (Nat.le_of_ble_eq_true rfl) ?_
  show aE l d none 10 cX10_atMost (some .int) _ 0 [some (.int v), some (.int m)] [] σ
  simp only [eX10_atMost_0, eX10_atMost_1, eX10_atMost_2, eX10_atMost_5, eX10_atMost_6, eX10_atMost_9, eX10_atMost_10, fx0, fx1, fx2, fx3, fx4, nl_int, nl_ref, nl_none, nl_ti, rz_nil, rz_int, rz_ref, rz_long, cf1, cf2, Option.toList_some, Option.toList_none, List.cons_append, List.nil_append, mn]
  by_cases h : m ≤ v
  · have : ¬ v < m := Int32.not_lt.mpr h
    simp [h, this]
  · have : v < m := Int32.not_le.mp h
    simp [h, this]
theorem m_atLeast {v m : Int32} : Sem l (d + 1) 95 [.int v, .int m] σ (some (.int (mx m v))) σ := by
  refine Sem_of rfl (Nat.le_of_ble_eq_true rfl) ?_
  show aE l d none 10 cX10_atLeast (some .int) _ 0 [some (.int v), some (.int m)] [] σ
  simp only [eX10_atLeast_0, eX10_atLeast_1, eX10_atLeast_2, eX10_atLeast_5, eX10_atLeast_6, eX10_atLeast_9, eX10_atLeast_10, fx0, fx1, fx2, fx3, fx4, nl_int, nl_ref, nl_none, nl_ti, rz_nil, rz_int, rz_ref, rz_long, cf1, cf2, Option.toList_some, Option.toList_none, List.cons_append, List.nil_append, mx]
  by_cases h : v ≤ m
  · have : ¬ m < v := Int32.not_lt.mpr h
    simp [h, this]
  · have : m < v := Int32.not_le.mp h
    simp [h, this]
theorem m_isWatcher {p : Int32} : Sem l (d + 2) 96 [.ref 109, .int p] σ (some (.int (inB p.toInt64 0 (σ 109 4 - 1).toInt64))) σ := by
  refine Sem_of rfl (Nat.le_of_ble_eq_true rfl) ?_
  show aE l (d + 1) none 10 cX10_isWatcher (some .boolean) _ 0 [some (.ref 109), some (.int p)] [] σ
  simp only [eX10_isWatcher_0, eX10_isWatcher_1, eX10_isWatcher_2, eX10_isWatcher_3, eX10_isWatcher_4, eX10_isWatcher_7, eX10_isWatcher_8, eX10_isWatcher_9, eX10_isWatcher_10, eX10_isWatcher_13, fx0, fx1, fx2, fx3, fx4, nl_int, nl_ref, nl_none, nl_ti, rz_nil, rz_int, rz_ref, rz_long, cf1, cf2, Option.toList_some, Option.toList_none, List.cons_append, List.nil_append]
  refine aC.of m_in ?_
  simp only [eX10_isWatcher_0, eX10_isWatcher_1, eX10_isWatcher_2, eX10_isWatcher_3, eX10_isWatcher_4, eX10_isWatcher_7, eX10_isWatcher_8, eX10_isWatcher_9, eX10_isWatcher_10, eX10_isWatcher_13, fx0, fx1, fx2, fx3, fx4, nl_int, nl_ref, nl_none, nl_ti, rz_nil, rz_int, rz_ref, rz_long, cf1, cf2, Option.toList_some, Option.toList_none, List.cons_append, List.nil_append]
  exact ⟨by unfold inB; (repeat' split) <;> simp, trivial, trivial⟩
theorem m_isSleeper {p : Int32} : Sem l (d + 2) 97 [.ref 109, .int p] σ (some (.int (inB p.toInt64 0 (σ 109 8 - 1).toInt64))) σ := by
  refine Sem_of rfl (Nat.le_of_ble_eq_true rfl) ?_
  show aE l (d + 1) none 10 cX10_isSleeper (some .boolean) _ 0 [some (.ref 109), some (.int p)] [] σ
  simp only [eX10_isSleeper_0, eX10_isSleeper_1, eX10_isSleeper_2, eX10_isSleeper_3, eX10_isSleeper_4, eX10_isSleeper_7, eX10_isSleeper_8, eX10_isSleeper_9, eX10_isSleeper_10, eX10_isSleeper_13, fx0, fx1, fx2, fx3, fx4, nl_int, nl_ref, nl_none, nl_ti, rz_nil, rz_int, rz_ref, rz_long, cf1, cf2, Option.toList_some, Option.toList_none, List.cons_append, List.nil_append]
  refine aC.of m_in ?_
  simp only [eX10_isSleeper_0, eX10_isSleeper_1, eX10_isSleeper_2, eX10_isSleeper_3, eX10_isSleeper_4, eX10_isSleeper_7, eX10_isSleeper_8, eX10_isSleeper_9, eX10_isSleeper_10, eX10_isSleeper_13, fx0, fx1, fx2, fx3, fx4, nl_int, nl_ref, nl_none, nl_ti, rz_nil, rz_int, rz_ref, rz_long, cf1, cf2, Option.toList_some, Option.toList_none, List.cons_append, List.nil_append]
  exact ⟨by unfold inB; (repeat' split) <;> simp, trivial, trivial⟩
theorem m_isSet {p : Int32} : Sem l (d + 2) 98 [.ref 109, .int p] σ (some (.int (inB p.toInt64 0 (1 <<< (σ 109 4 &&& 31) - 1).toInt64))) σ := by
  refine Sem_of rfl (Nat.le_of_ble_eq_true rfl) ?_
  show aE l (d + 1) none 10 cX10_isSet (some .boolean) _ 0 [some (.ref 109), some (.int p)] [] σ
  simp only [eX10_isSet_0, eX10_isSet_1, eX10_isSet_2, eX10_isSet_3, eX10_isSet_4, eX10_isSet_5, eX10_isSet_8, eX10_isSet_9, eX10_isSet_10, eX10_isSet_11, eX10_isSet_12, eX10_isSet_15, fx0, fx1, fx2, fx3, fx4, nl_int, nl_ref, nl_none, nl_ti, rz_nil, rz_int, rz_ref, rz_long, cf1, cf2, Option.toList_some, Option.toList_none, List.cons_append, List.nil_append]
  refine aC.of m_in ?_
  simp only [eX10_isSet_0, eX10_isSet_1, eX10_isSet_2, eX10_isSet_3, eX10_isSet_4, eX10_isSet_5, eX10_isSet_8, eX10_isSet_9, eX10_isSet_10, eX10_isSet_11, eX10_isSet_12, eX10_isSet_15, fx0, fx1, fx2, fx3, fx4, nl_int, nl_ref, nl_none, nl_ti, rz_nil, rz_int, rz_ref, rz_long, cf1, cf2, Option.toList_some, Option.toList_none, List.cons_append, List.nil_append]
  exact ⟨by unfold inB; (repeat' split) <;> simp, trivial, trivial⟩
theorem m_sitsUp {g set nods : Int32} : Sem l (d + 1) 115 [.int g, .int set, .int nods] σ (some (.int (sU g set nods))) σ := by
  refine Sem_of rfl (Nat.le_of_ble_eq_true rfl) ?_
  show aE l d none 10 cX10_sitsUp (some .boolean) _ 0 [some (.int g), some (.int set), some (.int nods), none] [] σ
  simp only [eX10_sitsUp_0, eX10_sitsUp_1, eX10_sitsUp_2, eX10_sitsUp_3, eX10_sitsUp_4, eX10_sitsUp_5, eX10_sitsUp_8, eX10_sitsUp_9, eX10_sitsUp_10, eX10_sitsUp_11, eX10_sitsUp_12, eX10_sitsUp_13, eX10_sitsUp_16, eX10_sitsUp_17, eX10_sitsUp_20, eX10_sitsUp_21, eX10_sitsUp_24, eX10_sitsUp_25, eX10_sitsUp_26, eX10_sitsUp_27, eX10_sitsUp_28, eX10_sitsUp_29, eX10_sitsUp_32, eX10_sitsUp_33, eX10_sitsUp_36, eX10_sitsUp_37, fx0, fx1, fx2, fx3, fx4, nl_int, nl_ref, nl_none, nl_ti, rz_nil, rz_int, rz_ref, rz_long, cf1, cf2, Option.toList_some, Option.toList_none, List.cons_append, List.nil_append, sU]
  (repeat' split) <;> simp_all
theorem bits_loop {x : Int32} : ∀ n p, p + n = 8 → aE l d none 10 cX10_bits (some .int) (fun r' σ'' => r' = some (.int (bitN x 8)) ∧ σ'' = σ) 4 [some (.int x), some (.int (bitN x p)), some (.int (nI p))] [] σ := by
  intro n
  induction n with
  | zero =>
    intro p hp
    have hp : p = 8 := by omega
    subst hp
    simp only [eX10_bits_4, eX10_bits_5, eX10_bits_7, eX10_bits_24, eX10_bits_25, fx0, fx1, fx2, fx3, fx4, nl_int, nl_ref, nl_none, nl_ti, rz_nil, rz_int, rz_ref, rz_long, cf1, cf2, Option.toList_some, Option.toList_none, List.cons_append, List.nil_append, show (8 : Int32) ≤ nI 8 by decide, if_true]
    simp
  | succ n ih =>
    intro p hp
    have h2 : ¬ (8 : Int32) ≤ nI p := by rw [show (8 : Int32) = nI 8 from rfl, nile (by omega) (by omega)]; omega
    have hinc : nI p + 1 = nI (p + 1) := nI_1 p
    rw [eX10_bits_4]
    simp only [eX10_bits_5, eX10_bits_7, eX10_bits_10, eX10_bits_11, eX10_bits_12, eX10_bits_13, eX10_bits_14, eX10_bits_15, eX10_bits_16, eX10_bits_17, eX10_bits_18, eX10_bits_21, fx0, fx1, fx2, fx3, fx4, nl_int, nl_ref, nl_none, nl_ti, rz_nil, rz_int, rz_ref, rz_long, cf1, cf2, Option.toList_some, Option.toList_none, List.cons_append, List.nil_append, h2, if_false, hinc]
    exact ih (p + 1) (by omega)
theorem m_bits {x : Int32} : Sem l (d + 1) 93 [.int x] σ (some (.int (bitN x 8))) σ := by
  refine Sem_of rfl (Nat.le_of_ble_eq_true rfl) ?_
  show aE l d none 10 cX10_bits (some .int) _ 0 [some (.int x), none, none] [] σ
  simp only [eX10_bits_0, eX10_bits_1, eX10_bits_2, eX10_bits_3, fx0, fx1, fx2, fx3, fx4, nl_int, nl_ref, nl_none, nl_ti, rz_nil, rz_int, rz_ref, rz_long, cf1, cf2, Option.toList_some, Option.toList_none, List.cons_append, List.nil_append]
  exact bits_loop 8 0 (by omega)
theorem tire_loop {w : Nat} {set rung : Int32} (hw : σ 109 4 = nI w) (hw6 : w ≤ 6) : ∀ (n p : Nat) (tmp : Option Int32), p + n = w →
    aE l (d + 1) none 10 cX10_tire (some .int) (fun r' σ'' => r' = some (.int (mnS σ set rung w)) ∧ σ'' = sr σ 114 (pre w (mtR σ set rung) (σ 114))) 5 [some (.ref 109), some (.int set), some (.int rung), some (.int (mnS σ set rung p)), some (.int (nI p)), ti tmp] [] (sr σ 114 (pre p (mtR σ set rung) (σ 114))) := by
  intro n
  induction n with
  | zero =>
    intro p tmp hp
    have hp : p = w := by omega
    subst hp
    have h1 : nI p ≤ nI p := (nile (by omega) (by omega)).mpr (Nat.le_refl p)
    simp only [eX10_tire_5, eX10_tire_7, eX10_tire_8, eX10_tire_11, eX10_tire_141, eX10_tire_142, fx0, fx1, fx2, fx3, fx4, nl_int, nl_ref, nl_none, nl_ti, rz_nil, rz_int, rz_ref, rz_long, cf1, cf2, Option.toList_some, Option.toList_none, List.cons_append, List.nil_append, su_at, su_ne, sr_eq, sr_ne, ne_eq, Nat.reduceEqDiff, not_false_eq_true, not_true_eq_false, if_true, if_false, hw, h1]
    simp
  | succ n ih =>
    intro p tmp hp
    have h1 : ¬ nI w ≤ nI p := by rw [nile (by omega) (by omega)]; omega
    have hin : vp_in (nI p) 6 := vin (by omega) (by omega)
    have hin2 : vp_in (nI p) 19 := vin (by omega) (by omega)
    have hcl : (nI p).toNatClampNeg = p := nic (by omega)
    have hinc : nI p + 1 = nI (p + 1) := nI_1 p
    rw [eX10_tire_5]
    simp only [eX10_tire_7, eX10_tire_8, eX10_tire_11, eX10_tire_14, eX10_tire_15, eX10_tire_17, fx0, fx1, fx2, fx3, fx4, nl_int, nl_ref, nl_none, nl_ti, rz_nil, rz_int, rz_ref, rz_long, cf1, cf2, Option.toList_some, Option.toList_none, List.cons_append, List.nil_append, su_at, su_ne, sr_eq, sr_ne, ne_eq, Nat.reduceEqDiff, not_false_eq_true, not_true_eq_false, if_true, if_false, hw, h1]
    refine aC.of m_has ?_
    unfold hB
    by_cases hb : set >>> (nI p &&& 31) &&& 1 = 0
    · have hb1 : ¬ set >>> (nI p &&& 31) &&& 1 = 1 := by rw [hb]; decide
      simp only [eX10_tire_20, eX10_tire_23, eX10_tire_24, eX10_tire_27, eX10_tire_28, eX10_tire_31, eX10_tire_33, eX10_tire_34, eX10_tire_35, eX10_tire_38, eX10_tire_39, eX10_tire_40, eX10_tire_43, eX10_tire_46, eX10_tire_47, eX10_tire_50, eX10_tire_52, eX10_tire_53, eX10_tire_55, eX10_tire_56, eX10_tire_59, eX10_tire_61, eX10_tire_63, eX10_tire_64, eX10_tire_67, eX10_tire_69, eX10_tire_70, eX10_tire_71, eX10_tire_74, eX10_tire_77, eX10_tire_78, eX10_tire_79, eX10_tire_80, eX10_tire_83, eX10_tire_85, eX10_tire_86, eX10_tire_87, eX10_tire_90, eX10_tire_92, eX10_tire_93, eX10_tire_96, eX10_tire_97, eX10_tire_99, eX10_tire_100, eX10_tire_103, eX10_tire_104, eX10_tire_105, eX10_tire_106, eX10_tire_109, eX10_tire_110, eX10_tire_113, eX10_tire_115, eX10_tire_116, eX10_tire_119, eX10_tire_121, eX10_tire_122, eX10_tire_123, eX10_tire_126, eX10_tire_128, eX10_tire_129, eX10_tire_130, eX10_tire_131, fx0, fx1, fx2, fx3, fx4, nl_int, nl_ref, nl_none, nl_ti, rz_nil, rz_int, rz_ref, rz_long, cf1, cf2, Option.toList_some, Option.toList_none, List.cons_append, List.nil_append, su_at, su_ne, sr_eq, sr_ne, ne_eq, Nat.reduceEqDiff, not_false_eq_true, not_true_eq_false, if_true, if_false, hb1, hin, hin2, hcl, true_and, pre_at]
      refine aC.of m_atLeast ?_
      simp only [eX10_tire_134, eX10_tire_135, eX10_tire_138, fx0, fx1, fx2, fx3, fx4, nl_int, nl_ref, nl_none, nl_ti, rz_nil, rz_int, rz_ref, rz_long, cf1, cf2, Option.toList_some, Option.toList_none, List.cons_append, List.nil_append, su_at, su_ne, sr_eq, sr_ne, ne_eq, Nat.reduceEqDiff, not_false_eq_true, not_true_eq_false, if_true, if_false, hb1, hin, hin2, hcl, hinc, true_and]
      rw [pre_step (h := mtR σ set rung) (by simp only [mtR, tE, hb, if_true, mx0, mx])]
      have := ih (p + 1) tmp (by omega)
      rw [show mnS σ set rung (p + 1) = mnS σ set rung p by simp only [mnS, nodS, hb, if_true]] at this
      exact this
    · have hb1 : set >>> (nI p &&& 31) &&& 1 = 1 := (bit01 _).resolve_left hb
      have hn : mnS σ set rung (p + 1) = if mtR σ set rung p ≤ σ 112 p then mnS σ set rung p else mnS σ set rung p ||| (1 <<< (nI p &&& 31)) := by
        simp only [mnS, mtR, nodS, hb, if_false]
        rfl
      simp only [eX10_tire_20, eX10_tire_23, eX10_tire_24, eX10_tire_27, eX10_tire_28, eX10_tire_31, eX10_tire_33, eX10_tire_34, eX10_tire_35, eX10_tire_38, eX10_tire_39, eX10_tire_40, fx0, fx1, fx2, fx3, fx4, nl_int, nl_ref, nl_none, nl_ti, rz_nil, rz_int, rz_ref, rz_long, cf1, cf2, Option.toList_some, Option.toList_none, List.cons_append, List.nil_append, su_at, su_ne, sr_eq, sr_ne, ne_eq, Nat.reduceEqDiff, not_false_eq_true, not_true_eq_false, if_true, if_false, hb1, hin, hin2, hcl, true_and, pre_at, show ¬ (1 : Int32) = 0 by decide]
      by_cases hr : rung = 0
      · have ht9 : mtR σ set rung p = mn 199 (σ 114 p + σ 110 p) := by simp only [mtR, tE, hb, hr, if_true, if_false]
        rw [if_pos hr]
        simp only [eX10_tire_46, eX10_tire_47, eX10_tire_50, eX10_tire_52, eX10_tire_53, eX10_tire_55, eX10_tire_56, eX10_tire_59, eX10_tire_61, eX10_tire_63, eX10_tire_64, eX10_tire_67, eX10_tire_69, eX10_tire_70, eX10_tire_71, eX10_tire_74, fx0, fx1, fx2, fx3, fx4, nl_int, nl_ref, nl_none, nl_ti, rz_nil, rz_int, rz_ref, rz_long, cf1, cf2, Option.toList_some, Option.toList_none, List.cons_append, List.nil_append, su_at, su_ne, sr_eq, sr_ne, ne_eq, Nat.reduceEqDiff, not_false_eq_true, not_true_eq_false, if_true, if_false, hin, hin2, hcl, true_and, pre_at]
        refine aC.of m_atMost ?_
        simp only [eX10_tire_77, eX10_tire_78, eX10_tire_79, eX10_tire_80, eX10_tire_83, eX10_tire_85, eX10_tire_86, eX10_tire_87, eX10_tire_90, eX10_tire_92, eX10_tire_93, eX10_tire_96, eX10_tire_97, eX10_tire_99, eX10_tire_100, eX10_tire_103, eX10_tire_104, eX10_tire_105, eX10_tire_106, eX10_tire_109, eX10_tire_110, eX10_tire_113, eX10_tire_115, eX10_tire_116, eX10_tire_119, eX10_tire_121, eX10_tire_122, eX10_tire_123, eX10_tire_126, eX10_tire_128, eX10_tire_129, eX10_tire_130, eX10_tire_131, eX10_tire_134, eX10_tire_135, eX10_tire_138, fx0, fx1, fx2, fx3, fx4, nl_int, nl_ref, nl_none, nl_ti, rz_nil, rz_int, rz_ref, rz_long, cf1, cf2, Option.toList_some, Option.toList_none, List.cons_append, List.nil_append, su_at, su_ne, sr_eq, sr_ne, ne_eq, Nat.reduceEqDiff, not_false_eq_true, not_true_eq_false, if_true, if_false, hin, hin2, hcl, hinc, true_and, Int32.or_zero]
        have := ih (p + 1) (some (σ 114 p)) (by omega)
        rw [pre_step (h := mtR σ set rung) ht9.symm, ← ht9]
        rw [hn] at this
        by_cases hl : mtR σ set rung p ≤ σ 112 p
        · rw [if_pos hl] at this ⊢
          exact this
        · rw [if_neg hl] at this ⊢
          exact this
      · have ht9 : mtR σ set rung p = mn 199 (mx 0 (σ 114 p - σ 109 3) + σ 110 p) := by simp only [mtR, tE, hb, hr, if_false, mx0, mx]
        rw [if_neg hr]
        refine aC.of m_atLeast ?_
        simp only [eX10_tire_43, eX10_tire_46, eX10_tire_47, eX10_tire_50, eX10_tire_52, eX10_tire_53, eX10_tire_55, eX10_tire_56, eX10_tire_59, eX10_tire_61, eX10_tire_63, eX10_tire_64, eX10_tire_67, eX10_tire_69, eX10_tire_70, eX10_tire_71, eX10_tire_74, fx0, fx1, fx2, fx3, fx4, nl_int, nl_ref, nl_none, nl_ti, rz_nil, rz_int, rz_ref, rz_long, cf1, cf2, Option.toList_some, Option.toList_none, List.cons_append, List.nil_append, su_at, su_ne, sr_eq, sr_ne, ne_eq, Nat.reduceEqDiff, not_false_eq_true, not_true_eq_false, if_true, if_false, hin, hin2, hcl, true_and, pre_at]
        refine aC.of m_atMost ?_
        simp only [eX10_tire_77, eX10_tire_78, eX10_tire_79, eX10_tire_80, eX10_tire_83, eX10_tire_85, eX10_tire_86, eX10_tire_87, eX10_tire_90, eX10_tire_92, eX10_tire_93, eX10_tire_96, eX10_tire_97, eX10_tire_99, eX10_tire_100, eX10_tire_103, eX10_tire_104, eX10_tire_105, eX10_tire_106, eX10_tire_109, eX10_tire_110, eX10_tire_113, eX10_tire_115, eX10_tire_116, eX10_tire_119, eX10_tire_121, eX10_tire_122, eX10_tire_123, eX10_tire_126, eX10_tire_128, eX10_tire_129, eX10_tire_130, eX10_tire_131, eX10_tire_134, eX10_tire_135, eX10_tire_138, fx0, fx1, fx2, fx3, fx4, nl_int, nl_ref, nl_none, nl_ti, rz_nil, rz_int, rz_ref, rz_long, cf1, cf2, Option.toList_some, Option.toList_none, List.cons_append, List.nil_append, su_at, su_ne, sr_eq, sr_ne, ne_eq, Nat.reduceEqDiff, not_false_eq_true, not_true_eq_false, if_true, if_false, hin, hin2, hcl, hinc, true_and, Int32.or_zero]
        have := ih (p + 1) (some (mx 0 (σ 114 p - σ 109 3))) (by omega)
        rw [pre_step (h := mtR σ set rung) ht9.symm, ← ht9]
        rw [hn] at this
        by_cases hl : mtR σ set rung p ≤ σ 112 p
        · rw [if_pos hl] at this ⊢
          exact this
        · rw [if_neg hl] at this ⊢
          exact this
theorem m_tire {w : Nat} {set rung : Int32} (hw : σ 109 4 = nI w) (hw6 : w ≤ 6) : Sem l (d + 2) 114 [.ref 109, .int set, .int rung] σ (some (.int (mnS σ set rung w))) (sr σ 114 (pre w (mtR σ set rung) (σ 114))) := by
  refine Sem_of rfl (Nat.le_of_ble_eq_true rfl) ?_
  show aE l (d + 1) none 10 cX10_tire (some .int) _ 0 [some (.ref 109), some (.int set), some (.int rung), none, none, none] [] σ
  simp only [eX10_tire_0, eX10_tire_1, eX10_tire_2, eX10_tire_3, fx0, fx1, fx2, fx3, fx4, nl_int, nl_ref, nl_none, nl_ti, rz_nil, rz_int, rz_ref, rz_long, cf1, cf2, Option.toList_some, Option.toList_none, List.cons_append, List.nil_append]
  have := tire_loop (l := l) (d := d) (set := set) (rung := rung) hw hw6 w 0 none (by omega)
  rw [pre_0, sr_self] at this
  exact this
theorem m_passHour (hH : ¬ σ 109 0 = 0) : Sem l (d + 1) 116 [.ref 109] σ none (su (su σ 114 12 (σ 114 12 + 1)) 114 18 (if remI (σ 114 12 + 1) (σ 109 0) = 0 then 0 else σ 114 18)) := by
  refine Sem_of rfl (Nat.le_of_ble_eq_true rfl) ?_
  show aE l d none 10 cX10_passHour none _ 0 [some (.ref 109)] [] σ
  simp only [eX10_passHour_0, eX10_passHour_1, eX10_passHour_4, eX10_passHour_6, eX10_passHour_7, eX10_passHour_8, eX10_passHour_9, eX10_passHour_10, eX10_passHour_11, eX10_passHour_12, eX10_passHour_15, eX10_passHour_17, eX10_passHour_18, eX10_passHour_21, eX10_passHour_23, eX10_passHour_24, eX10_passHour_25, eX10_passHour_28, eX10_passHour_29, eX10_passHour_32, eX10_passHour_33, eX10_passHour_36, eX10_passHour_37, eX10_passHour_40, eX10_passHour_42, eX10_passHour_43, eX10_passHour_44, fx0, fx1, fx2, fx3, fx4, nl_int, nl_ref, nl_none, nl_ti, rz_nil, rz_int, rz_ref, rz_long, cf1, cf2, Option.toList_some, Option.toList_none, List.cons_append, List.nil_append, su_at, su_ne, sr_eq, sr_ne, ne_eq, Nat.reduceEqDiff, not_false_eq_true, not_true_eq_false, if_true, if_false, vi19, hH, true_and, remI]
  split <;> simp_all
end M1
