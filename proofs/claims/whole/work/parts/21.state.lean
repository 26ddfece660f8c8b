/-! State, Draws, bitCount -/
def cpS (σ : aW) (a b : Nat) : aW := fun c => if c = a then (fun k => if k < 7 then σ b k else σ a k) else if c = a + 1 then (fun k => if k < 6 then σ (b + 1) k else σ (a + 1) k) else if c = a + 2 then (fun k => if k < 6 then σ (b + 2) k else σ (a + 2) k) else σ c
section ST
variable {l : Launch} {d : Nat} {σ : aW}
theorem c_copyState {a b : Nat} (ha : isSt a) (hb : isSt b) (hab : a + 2 < b ∨ b + 2 < a) : Sem l (d + 1) 45 [.ref a, .ref b] σ none (cpS σ a b) := by
  refine Sem_of rfl (Nat.le_of_ble_eq_true rfl) ?_
  show aE l d none 7 cX7_copyFrom none _ 0 [some (.ref a), some (.ref b)] [] σ
  have n0 : b ≠ a := by omega
  have n1 : b + 1 ≠ a := by omega
  have n2 : b + 2 ≠ a := by omega
  simp only [eX7_copyFrom_0, eX7_copyFrom_1, eX7_copyFrom_2, eX7_copyFrom_5, eX7_copyFrom_8, eX7_copyFrom_9, eX7_copyFrom_10, eX7_copyFrom_13, eX7_copyFrom_16, eX7_copyFrom_17, eX7_copyFrom_18, eX7_copyFrom_21, eX7_copyFrom_24, eX7_copyFrom_25, eX7_copyFrom_26, eX7_copyFrom_29, eX7_copyFrom_32, eX7_copyFrom_33, eX7_copyFrom_34, eX7_copyFrom_37, eX7_copyFrom_40, eX7_copyFrom_41, eX7_copyFrom_42, eX7_copyFrom_45, eX7_copyFrom_48, eX7_copyFrom_49, eX7_copyFrom_50, eX7_copyFrom_53, eX7_copyFrom_56, eX7_copyFrom_57, eX7_copyFrom_60, eX7_copyFrom_61, eX7_copyFrom_62, eX7_copyFrom_65, eX7_copyFrom_66, eX7_copyFrom_68, eX7_copyFrom_71, eX7_copyFrom_72, eX7_copyFrom_75, eX7_copyFrom_76, eX7_copyFrom_77, eX7_copyFrom_80, eX7_copyFrom_81, eX7_copyFrom_83, eX7_copyFrom_86, fx0, fx1, fx2, fx3, fx4, nl_int, nl_ref, nl_none, nl_ti, rz_nil, rz_int, rz_ref, rz_long, cf1, cf2, Option.toList_some, Option.toList_none, List.cons_append, List.nil_append, ha.facts, hb.facts, su_ne n0, Nat.le_refl]
  refine ⟨trivial, ?_⟩
  funext c k
  unfold cpS
  have m1 : b + 1 ≠ a + 1 := by omega
  have m2 : b + 2 ≠ a + 1 := by omega
  have m3 : b + 1 ≠ a + 2 := by omega
  have m4 : b + 2 ≠ a + 2 := by omega
  by_cases h1 : c = a
  · subst h1
    rw [if_pos rfl]
    have e1 : c ≠ c + 1 := by omega
    have e2 : c ≠ c + 2 := by omega
    simp only [sy_if, e1, e2, false_and, if_false, su_at]
    by_cases hk : k < 7
    · rw [if_pos hk]
      rcases (show k = 0 ∨ k = 1 ∨ k = 2 ∨ k = 3 ∨ k = 4 ∨ k = 5 ∨ k = 6 by omega) with rfl | rfl | rfl | rfl | rfl | rfl | rfl <;> simp
    · rw [if_neg hk]
      simp only [show k ≠ 0 by omega, show k ≠ 1 by omega, show k ≠ 2 by omega, show k ≠ 3 by omega, show k ≠ 4 by omega, show k ≠ 5 by omega, show k ≠ 6 by omega, if_false]
  · rw [if_neg h1]
    by_cases h2 : c = a + 1
    · subst h2
      simp only [sy_if, su_ne h1, su_ne n1, su_ne n2, m1, m2, m3, m4, true_and, false_and, if_true, if_false, show a + 1 ≠ a + 2 by omega]
    · rw [if_neg h2]
      by_cases h3 : c = a + 2
      · subst h3
        simp only [sy_if, su_ne h1, su_ne n1, su_ne n2, m1, m2, m3, m4, h2, true_and, false_and, if_true, if_false]
      · simp only [sy_if, su_ne h1, h2, h3, false_and, if_false]
theorem c_endHour {a ct : Nat} (ha : isSt a) (hc : isCt ct) (hac : ct ≠ a) (hH : ¬ σ ct 0 ≤ 0) : Sem l (d + 1) 48 [.ref a, .ref ct] σ none (if σ a 0 + 1 - (σ a 0 + 1) / σ ct 0 * σ ct 0 = 0 then su (su σ a 0 (σ a 0 + 1)) a 6 0 else su σ a 0 (σ a 0 + 1)) := by
  refine Sem_of rfl (Nat.le_of_ble_eq_true rfl) ?_
  show aE l d none 7 cX7_endHour none _ 0 [some (.ref a), some (.ref ct)] [] σ
  have hne : ¬ σ ct 0 = 0 := fun e => hH (by rw [e]; exact Int32.le_refl 0)
  simp only [eX7_endHour_0, eX7_endHour_1, eX7_endHour_2, eX7_endHour_5, eX7_endHour_6, eX7_endHour_7, eX7_endHour_10, eX7_endHour_11, eX7_endHour_14, eX7_endHour_17, eX7_endHour_18, eX7_endHour_21, eX7_endHour_22, eX7_endHour_25, eX7_endHour_26, eX7_endHour_29, eX7_endHour_30, eX7_endHour_31, eX7_endHour_34, fx0, fx1, fx2, fx3, fx4, nl_int, nl_ref, nl_none, nl_ti, rz_nil, rz_int, rz_ref, rz_long, cf1, cf2, Option.toList_some, Option.toList_none, List.cons_append, List.nil_append, ha.facts, hc.facts, su_ne hac, su_eq, hH, if_false]
  refine ⟨hne, ?_⟩
  split <;> simp_all
def bc (x0 : Int32) : Int32 :=
  let x1 := x0 - ((x0.toUInt32 >>> (Int32.toUInt32 1 &&& Int32.toUInt32 31)).toInt32 &&& 1431655765)
  let x2 := (x1 &&& 858993459) + ((x1.toUInt32 >>> (Int32.toUInt32 2 &&& Int32.toUInt32 31)).toInt32 &&& 858993459)
  let x3 := (x2 + (x2.toUInt32 >>> (Int32.toUInt32 4 &&& Int32.toUInt32 31)).toInt32) &&& 252645135
  let x4 := x3 + (x3.toUInt32 >>> (Int32.toUInt32 8 &&& Int32.toUInt32 31)).toInt32
  let x5 := x4 + (x4.toUInt32 >>> (Int32.toUInt32 16 &&& Int32.toUInt32 31)).toInt32
  x5 &&& 63
theorem c_bitCount {x : Int32} : Sem l (d + 1) 153 [.int x] σ (some (.int (bc x))) σ := by
  refine Sem_of rfl (Nat.le_of_ble_eq_true rfl) ?_
  show aE l d none 12 cJ6_bitCount_0f7a4 (some .int) _ 0 [some (.int x)] [] σ
  simp only [eJ6_bitCount_0f7a4_0, eJ6_bitCount_0f7a4_1, eJ6_bitCount_0f7a4_2, eJ6_bitCount_0f7a4_3, eJ6_bitCount_0f7a4_4, eJ6_bitCount_0f7a4_7, eJ6_bitCount_0f7a4_8, eJ6_bitCount_0f7a4_9, eJ6_bitCount_0f7a4_10, eJ6_bitCount_0f7a4_11, eJ6_bitCount_0f7a4_14, eJ6_bitCount_0f7a4_15, eJ6_bitCount_0f7a4_16, eJ6_bitCount_0f7a4_17, eJ6_bitCount_0f7a4_18, eJ6_bitCount_0f7a4_21, eJ6_bitCount_0f7a4_22, eJ6_bitCount_0f7a4_23, eJ6_bitCount_0f7a4_24, eJ6_bitCount_0f7a4_25, eJ6_bitCount_0f7a4_26, eJ6_bitCount_0f7a4_27, eJ6_bitCount_0f7a4_28, eJ6_bitCount_0f7a4_29, eJ6_bitCount_0f7a4_32, eJ6_bitCount_0f7a4_33, eJ6_bitCount_0f7a4_34, eJ6_bitCount_0f7a4_35, eJ6_bitCount_0f7a4_36, eJ6_bitCount_0f7a4_38, eJ6_bitCount_0f7a4_39, eJ6_bitCount_0f7a4_40, eJ6_bitCount_0f7a4_41, eJ6_bitCount_0f7a4_42, eJ6_bitCount_0f7a4_43, eJ6_bitCount_0f7a4_45, eJ6_bitCount_0f7a4_46, eJ6_bitCount_0f7a4_47, eJ6_bitCount_0f7a4_48, eJ6_bitCount_0f7a4_49, eJ6_bitCount_0f7a4_51, eJ6_bitCount_0f7a4_52, fx0, fx1, fx2, fx3, fx4, nl_int, nl_ref, nl_none, nl_ti, rz_nil, rz_int, rz_ref, rz_long, cf1, cf2, Option.toList_some, Option.toList_none, List.cons_append, List.nil_append]
  exact ⟨rfl, trivial⟩
def drF (v : Int32) : Int32 := ((v.toInt64 * 1103515245 + 12345) &&& 2147483647).toInt32
theorem c_draw {n : Int32} (hn : 0 < n) : Sem l (d + 1) 19 [.ref 90, .int n] σ (some (.int (drF (σ 90 0) / 65536 - drF (σ 90 0) / 65536 / n * n))) (su σ 90 0 (drF (σ 90 0))) := by
  refine Sem_of rfl (Nat.le_of_ble_eq_true rfl) ?_
  show aE l d none 3 cX3_draw (some .int) _ 0 [some (.ref 90), some (.int n)] [] σ
  have hn0 : ¬ n = 0 := fun e => by rw [e] at hn; exact absurd hn (by decide)
  simp only [eX3_draw_0, eX3_draw_1, eX3_draw_2, eX3_draw_5, eX3_draw_6, eX3_draw_9, eX3_draw_10, eX3_draw_13, eX3_draw_14, eX3_draw_17, eX3_draw_18, eX3_draw_19, eX3_draw_22, eX3_draw_23, eX3_draw_26, eX3_draw_27, eX3_draw_28, eX3_draw_29, eX3_draw_32, eX3_draw_34, eX3_draw_35, eX3_draw_36, eX3_draw_37, fx0, fx1, fx2, fx3, fx4, nl_int, nl_ref, nl_none, nl_ti, rz_nil, rz_int, rz_ref, rz_long, cf1, cf2, Option.toList_some, Option.toList_none, List.cons_append, List.nil_append, hn, if_true, su_eq]
  exact ⟨by decide, hn0, rfl, rfl⟩
end ST
