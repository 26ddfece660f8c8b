/-! the class's Contract: leaves -/
def sr (σ : aW) (t : Nat) (f : Nat → Int32) : aW := fun b => if b = t then f else σ b
theorem sr_eq (σ : aW) (t : Nat) (f : Nat → Int32) : sr σ t f t = f := if_pos rfl
theorem sr_ne {σ : aW} {t : Nat} {f : Nat → Int32} {b : Nat} (h : b ≠ t) : sr σ t f b = σ b := if_neg h
theorem sr_self (σ : aW) (t : Nat) : sr σ t (σ t) = σ := by
  funext b
  by_cases h : b = t
  · subst h; exact sr_eq _ _ _
  · exact sr_ne h
theorem sr_sr (σ : aW) (t : Nat) (f g : Nat → Int32) : sr (sr σ t f) t g = sr σ t g := by
  funext b
  by_cases h : b = t
  · subst h; rw [sr_eq, sr_eq]
  · rw [sr_ne h, sr_ne h, sr_ne h]
theorem su_sr (σ : aW) (t : Nat) (f : Nat → Int32) (k : Nat) (v : Int32) : su (sr σ t f) t k v = sr σ t (upd f k v) := by
  funext b
  by_cases h : b = t
  · subst h; simp [su, sr]
  · simp [su, sr, h]
theorem su_row (σ : aW) (t k : Nat) (v : Int32) : su σ t k v = sr σ t (upd (σ t) k v) := rfl
def pre (p : Nat) (h k : Nat → Int32) : Nat → Int32 := fun q => if q < p then h q else k q
theorem pre_at (p : Nat) (h k : Nat → Int32) : pre p h k p = k p := if_neg (Nat.lt_irrefl p)
theorem pre_0 (h k : Nat → Int32) : pre 0 h k = k := by funext q; exact if_neg (Nat.not_lt_zero q)
theorem pre_up (p : Nat) (h k : Nat → Int32) : upd (pre p h k) p (h p) = pre (p + 1) h k := by
  funext q
  unfold upd pre
  by_cases e : q = p
  · subst e; rw [if_pos rfl, if_pos (Nat.lt_succ_self q)]
  · rw [if_neg e]
    by_cases e2 : q < p
    · rw [if_pos e2, if_pos (by omega)]
    · rw [if_neg e2, if_neg (by omega)]
theorem pre_step {σ : aW} {t p : Nat} {h k : Nat → Int32} {v : Int32} (hv : v = h p) : su (sr σ t (pre p h k)) t p v = sr σ t (pre (p + 1) h k) := by rw [su_sr, hv, pre_up]
def mx0 (x : Int32) : Int32 := if 0 < x then x else 0
def mn (m x : Int32) : Int32 := if x < m then x else m
def nb (set : Int32) (p : Nat) : Prop := (set >>> (nI p &&& 31)) &&& 1 = 0
def tE (set rung B mo le t : Int32) (p : Nat) : Int32 := if (set >>> (nI p &&& 31)) &&& 1 = 0 then mx0 (t - le) else mn 199 ((if rung = 0 then t else mx0 (t - B)) + mo)
def nodS (set rung B : Int32) (mo le lim t : Nat → Int32) : Nat → Int32
  | 0 => 0
  | p + 1 => if (set >>> (nI p &&& 31)) &&& 1 = 0 then nodS set rung B mo le lim t p else if tE set rung B (mo p) (le p) (t p) p ≤ lim p then nodS set rung B mo le lim t p else nodS set rung B mo le lim t p ||| (1 <<< (nI p &&& 31))
def tR (σ : aW) (a t : Nat) (set rung : Int32) : Nat → Int32 := fun q => tE set rung (σ a 3) (σ (a + 2) q) (σ (a + 3) q) (σ t q) q
def nS (σ : aW) (a t : Nat) (set rung : Int32) : Nat → Int32 := nodS set rung (σ a 3) (σ (a + 2)) (σ (a + 3)) (σ (a + 4)) (σ t)
/-- a Contract's place -/
def isCt (a : Nat) : Prop := a = 2 ∨ a = 9
theorem isCt.facts {a : Nat} (h : isCt a) : cls a = 2 ∧ rf a 6 = a + 1 ∧ rf a 7 = a + 2 ∧ rf a 8 = a + 3 ∧ rf a 9 = a + 4 ∧ rf a 10 = a + 5 ∧ akd (a + 1) = 0 ∧ akd (a + 2) = 0 ∧ akd (a + 3) = 0 ∧ akd (a + 4) = 0 ∧ akd (a + 5) = 0 ∧ aln (a + 1) = 6 ∧ aln (a + 2) = 6 ∧ aln (a + 3) = 6 ∧ aln (a + 4) = 6 ∧ aln (a + 5) = 8 := by
  rcases h with rfl | rfl <;> decide +kernel
theorem vin {n N : Nat} (h : n < N) (hN : N ≤ 1000) : vp_in (nI n) N := vp_in_nI h (by omega)
theorem nic {n : Nat} (h : n ≤ 1000000) : (nI n).toNatClampNeg = n := nI_clamp (by omega)
theorem nile {a b : Nat} (ha : a ≤ 1000000) (hb : b ≤ 1000000) : (nI a ≤ nI b) = (a ≤ b) := propext (nI_leI (by omega) (by omega))
theorem nilt {a b : Nat} (ha : a ≤ 1000000) (hb : b ≤ 1000000) : (nI a < nI b) = (a < b) := propext (nI_ltI (by omega) (by omega))
theorem nieq {a b : Nat} (ha : a ≤ 1000000) (hb : b ≤ 1000000) : (nI a = nI b) = (a = b) := propext (nI_eq (by omega) (by omega))
section CT
variable {l : Launch} {d : Nat} {a : Nat} {σ : aW}
theorem c_hasWatcher (ha : isCt a) {p : Int32} : Sem l (d + 1) 10 [.ref a, .int p] σ (some (.int (if p < 0 then 0 else if σ a 4 ≤ p then 0 else if 6 ≤ p then 0 else 1))) σ := by
  refine Sem_of rfl (Nat.le_of_ble_eq_true rfl) ?_
  show aE l d none 2 cX2_hasWatcher (some .boolean) _ 0 [some (.ref a), some (.int p)] [] σ
  simp only [eX2_hasWatcher_0, eX2_hasWatcher_1, eX2_hasWatcher_4, eX2_hasWatcher_5, eX2_hasWatcher_6, eX2_hasWatcher_9, eX2_hasWatcher_12, eX2_hasWatcher_13, eX2_hasWatcher_15, eX2_hasWatcher_18, eX2_hasWatcher_19, eX2_hasWatcher_22, eX2_hasWatcher_23, fx0, fx1, fx2, fx3, fx4, nl_int, nl_ref, nl_none, nl_ti, rz_nil, rz_int, rz_ref, rz_long, cf1, cf2, Option.toList_some, Option.toList_none, List.cons_append, List.nil_append, ha.facts]
  (repeat' split) <;> simp_all
theorem c_hasSleeper (ha : isCt a) {p : Int32} : Sem l (d + 1) 11 [.ref a, .int p] σ (some (.int (if p < 0 then 0 else if σ a 5 ≤ p then 0 else if 8 ≤ p then 0 else 1))) σ := by
  refine Sem_of rfl (Nat.le_of_ble_eq_true rfl) ?_
  show aE l d none 2 cX2_hasSleeper (some .boolean) _ 0 [some (.ref a), some (.int p)] [] σ
  simp only [eX2_hasSleeper_0, eX2_hasSleeper_1, eX2_hasSleeper_4, eX2_hasSleeper_5, eX2_hasSleeper_6, eX2_hasSleeper_9, eX2_hasSleeper_12, eX2_hasSleeper_13, eX2_hasSleeper_15, eX2_hasSleeper_18, eX2_hasSleeper_19, eX2_hasSleeper_22, eX2_hasSleeper_23, fx0, fx1, fx2, fx3, fx4, nl_int, nl_ref, nl_none, nl_ti, rz_nil, rz_int, rz_ref, rz_long, cf1, cf2, Option.toList_some, Option.toList_none, List.cons_append, List.nil_append, ha.facts]
  (repeat' split) <;> simp_all
theorem c_stands (ha : isCt a) : Sem l (d + 1) 9 [.ref a] σ (some (.int (if σ a 0 ≤ 0 then 0 else 1))) σ := by
  refine Sem_of rfl (Nat.le_of_ble_eq_true rfl) ?_
  show aE l d none 2 cX2_stands (some .boolean) _ 0 [some (.ref a)] [] σ
  simp only [eX2_stands_0, eX2_stands_1, eX2_stands_4, eX2_stands_7, eX2_stands_8, eX2_stands_11, eX2_stands_12, fx0, fx1, fx2, fx3, fx4, nl_int, nl_ref, nl_none, nl_ti, rz_nil, rz_int, rz_ref, rz_long, cf1, cf2, Option.toList_some, Option.toList_none, List.cons_append, List.nil_append, ha.facts]
  (repeat' split) <;> simp_all
theorem c_everybody (ha : isCt a) : Sem l (d + 1) 12 [.ref a] σ (some (.int (1 <<< (σ a 4 &&& 31) - 1))) σ := by
  refine Sem_of rfl (Nat.le_of_ble_eq_true rfl) ?_
  show aE l d none 2 cX2_everybody (some .int) _ 0 [some (.ref a)] [] σ
  simp only [eX2_everybody_0, eX2_everybody_1, eX2_everybody_2, eX2_everybody_5, eX2_everybody_6, eX2_everybody_7, eX2_everybody_8, fx0, fx1, fx2, fx3, fx4, nl_int, nl_ref, nl_none, nl_ti, rz_nil, rz_int, rz_ref, rz_long, cf1, cf2, Option.toList_some, Option.toList_none, List.cons_append, List.nil_append, ha.facts]
  simp
theorem c_hasAll (ha : isCt a) {set : Int32} : Sem l (d + 2) 13 [.ref a, .int set] σ (some (.int (if set &&& ((1 <<< (σ a 4 &&& 31) - 1) ^^^ (-1)) = 0 then 1 else 0))) σ := by
  refine Sem_of rfl (Nat.le_of_ble_eq_true rfl) ?_
  show aE l (d + 1) none 2 cX2_hasAll (some .boolean) _ 0 [some (.ref a), some (.int set)] [] σ
  simp only [eX2_hasAll_0, eX2_hasAll_1, eX2_hasAll_2, eX2_hasAll_5, eX2_hasAll_6, eX2_hasAll_7, eX2_hasAll_8, eX2_hasAll_11, eX2_hasAll_12, eX2_hasAll_15, eX2_hasAll_16, fx0, fx1, fx2, fx3, fx4, nl_int, nl_ref, nl_none, nl_ti, rz_nil, rz_int, rz_ref, rz_long, cf1, cf2, Option.toList_some, Option.toList_none, List.cons_append, List.nil_append, ha.facts]
  simp
  refine aC.of (c_everybody ha) ?_
  simp only [eX2_hasAll_0, eX2_hasAll_1, eX2_hasAll_2, eX2_hasAll_5, eX2_hasAll_6, eX2_hasAll_7, eX2_hasAll_8, eX2_hasAll_11, eX2_hasAll_12, eX2_hasAll_15, eX2_hasAll_16, fx0, fx1, fx2, fx3, fx4, nl_int, nl_ref, nl_none, nl_ti, rz_nil, rz_int, rz_ref, rz_long, cf1, cf2, Option.toList_some, Option.toList_none, List.cons_append, List.nil_append]
  (repeat' split) <;> simp_all
theorem spend_loop (ha : isCt a) {t w : Nat} {set rung : Int32} (ht : akd t = 0) (ht2 : aln t = 6) (hne : t < a ∨ a + 5 < t) (hw : σ a 4 = nI w) (hw6 : w ≤ 6) : ∀ (n p : Nat) (tmp : Option Int32), p + n = w →
    aE l d none 2 cX2_spendHour (some .int) (fun r' σ'' => r' = some (.int (nS σ a t set rung w)) ∧ σ'' = sr σ t (pre w (tR σ a t set rung) (σ t))) 6 [some (.ref a), some (.ref t), some (.int set), some (.int rung), some (.int (nS σ a t set rung p)), some (.int (nI p)), ti tmp] [] (sr σ t (pre p (tR σ a t set rung) (σ t))) := by
  intro n
  have e0 : sr σ t (pre 0 (tR σ a t set rung) (σ t)) = σ := by rw [pre_0, sr_self]
  have n0 : a ≠ t := by omega
  have n2 : a + 2 ≠ t := by omega
  have n3 : a + 3 ≠ t := by omega
  have n4 : a + 4 ≠ t := by omega
  induction n with
  | zero =>
    intro p tmp hp
    have hp : p = w := by omega
    subst hp
    have h1 : nI p ≤ nI p := (nile (by omega) (by omega)).mpr (Nat.le_refl p)
    simp only [eX2_spendHour_6, eX2_spendHour_8, eX2_spendHour_9, eX2_spendHour_12, eX2_spendHour_129, eX2_spendHour_131, fx0, fx1, fx2, fx3, fx4, nl_int, nl_ref, nl_none, nl_ti, rz_nil, rz_int, rz_ref, rz_long, cf1, cf2, Option.toList_some, Option.toList_none, List.cons_append, List.nil_append, ha.facts, sr_ne n0, hw, h1, if_true]
    simp
  | succ n ih =>
    intro p tmp hp
    have h1 : ¬ nI w ≤ nI p := by rw [nile (by omega) (by omega)]; omega
    have h2 : ¬ (6 : Int32) ≤ nI p := by rw [show (6 : Int32) = nI 6 from rfl, nile (by omega) (by omega)]; omega
    have hin : vp_in (nI p) 6 := vin (by omega) (by omega)
    have hcl : (nI p).toNatClampNeg = p := nic (by omega)
    have hinc : nI p + 1 = nI (p + 1) := nI_1 p
    rw [eX2_spendHour_6]
    simp only [eX2_spendHour_8, eX2_spendHour_9, eX2_spendHour_12, eX2_spendHour_15, eX2_spendHour_17, eX2_spendHour_19, eX2_spendHour_22, eX2_spendHour_23, eX2_spendHour_25, eX2_spendHour_26, eX2_spendHour_27, eX2_spendHour_28, eX2_spendHour_31, eX2_spendHour_32, eX2_spendHour_35, eX2_spendHour_36, eX2_spendHour_37, eX2_spendHour_39, eX2_spendHour_40, eX2_spendHour_41, eX2_spendHour_44, eX2_spendHour_45, eX2_spendHour_48, eX2_spendHour_51, eX2_spendHour_52, eX2_spendHour_54, eX2_spendHour_55, eX2_spendHour_57, eX2_spendHour_58, eX2_spendHour_60, eX2_spendHour_63, eX2_spendHour_65, eX2_spendHour_66, eX2_spendHour_69, eX2_spendHour_71, eX2_spendHour_72, eX2_spendHour_73, eX2_spendHour_76, eX2_spendHour_77, eX2_spendHour_78, eX2_spendHour_80, eX2_spendHour_81, eX2_spendHour_82, eX2_spendHour_85, eX2_spendHour_87, eX2_spendHour_88, eX2_spendHour_91, eX2_spendHour_93, eX2_spendHour_94, eX2_spendHour_96, eX2_spendHour_97, eX2_spendHour_98, eX2_spendHour_100, eX2_spendHour_103, eX2_spendHour_104, eX2_spendHour_106, eX2_spendHour_107, eX2_spendHour_108, eX2_spendHour_110, eX2_spendHour_111, eX2_spendHour_112, eX2_spendHour_115, eX2_spendHour_117, eX2_spendHour_118, eX2_spendHour_119, eX2_spendHour_122, eX2_spendHour_123, eX2_spendHour_126, fx0, fx1, fx2, fx3, fx4, nl_int, nl_ref, nl_none, nl_ti, rz_nil, rz_int, rz_ref, rz_long, cf1, cf2, Option.toList_some, Option.toList_none, List.cons_append, List.nil_append, ha.facts, sr_ne n0, sr_ne n2, sr_ne n3, sr_ne n4, su_ne n0, su_ne n2, su_ne n3, su_ne n4, su_eq, sr_eq, hw, h1, h2, if_false, ht, ht2, hin, hcl, hinc, pre_at, true_and]
    by_cases hb : set >>> (nI p &&& 31) &&& 1 = 0
    · rw [if_pos hb, pre_step (h := tR σ a t set rung) (by simp only [tR, tE, hb, if_true, mx0])]
      have := ih (p + 1) tmp (by omega)
      rw [show nS σ a t set rung (p + 1) = nS σ a t set rung p by simp only [nS, nodS, hb, if_true]] at this
      exact this
    · rw [if_neg hb]
      have hn : nS σ a t set rung (p + 1) = if tR σ a t set rung p ≤ σ (a + 4) p then nS σ a t set rung p else nS σ a t set rung p ||| (1 <<< (nI p &&& 31)) := by
        simp only [nS, tR, nodS, hb, if_false]
        rfl
      by_cases hr : rung = 0
      · have ht9 : tR σ a t set rung p = if σ t p + σ (a + 2) p < 199 then σ t p + σ (a + 2) p else 199 := by simp only [tR, tE, hb, hr, if_true, if_false, mn]
        have := ih (p + 1) (some (σ t p)) (by omega)
        rw [if_pos hr, pre_step (h := tR σ a t set rung) ht9.symm, ← ht9]
        rw [hn] at this
        by_cases hl : tR σ a t set rung p ≤ σ (a + 4) p
        · rw [if_pos hl] at this ⊢
          exact this
        · rw [if_neg hl] at this ⊢
          exact this
      · have ht9 : tR σ a t set rung p = if (if 0 < σ t p - σ a 3 then σ t p - σ a 3 else 0) + σ (a + 2) p < 199 then (if 0 < σ t p - σ a 3 then σ t p - σ a 3 else 0) + σ (a + 2) p else 199 := by simp only [tR, tE, hb, hr, if_false, mn, mx0]
        have := ih (p + 1) (some (if 0 < σ t p - σ a 3 then σ t p - σ a 3 else 0)) (by omega)
        rw [if_neg hr, pre_step (h := tR σ a t set rung) ht9.symm, ← ht9]
        rw [hn] at this
        by_cases hl : tR σ a t set rung p ≤ σ (a + 4) p
        · rw [if_pos hl] at this ⊢
          exact this
        · rw [if_neg hl] at this ⊢
          exact this
theorem c_spendHour (ha : isCt a) {t w : Nat} {set rung : Int32} (ht : akd t = 0) (ht2 : aln t = 6) (hne : t < a ∨ a + 5 < t) (hw : σ a 4 = nI w) (hw6 : w ≤ 6) : Sem l (d + 1) 16 [.ref a, .ref t, .int set, .int rung] σ (some (.int (nS σ a t set rung w))) (sr σ t (pre w (tR σ a t set rung) (σ t))) := by
  refine Sem_of rfl (Nat.le_of_ble_eq_true rfl) ?_
  show aE l d none 2 cX2_spendHour (some .int) _ 0 [some (.ref a), some (.ref t), some (.int set), some (.int rung), none, none, none] [] σ
  simp only [eX2_spendHour_0, eX2_spendHour_1, eX2_spendHour_3, eX2_spendHour_4, fx0, fx1, fx2, fx3, fx4, nl_int, nl_ref, nl_none, nl_ti, rz_nil, rz_int, rz_ref, rz_long, cf1, cf2, Option.toList_some, Option.toList_none, List.cons_append, List.nil_append]
  have := spend_loop (l := l) (d := d) (set := set) (rung := rung) ha ht ht2 hne hw hw6 w 0 none (by omega)
  rw [pre_0, sr_self] at this
  exact this
theorem c_sitsUp (ha : isCt a) {s set nods : Int32} : Sem l (d + 2) 17 [.ref a, .int s, .int set, .int nods] σ (some (.int (if s < 0 then 0 else if σ a 5 ≤ s then 0 else if 8 ≤ s then 0 else if (if σ (a + 5) s.toNatClampNeg &&& set = 0 then set else σ (a + 5) s.toNatClampNeg &&& set) &&& (nods ^^^ (-1)) = 0 then 1 else 0))) σ := by
  refine Sem_of rfl (Nat.le_of_ble_eq_true rfl) ?_
  show aE l (d + 1) none 2 cX2_sitsUp (some .boolean) _ 0 [some (.ref a), some (.int s), some (.int set), some (.int nods), none, none] [] σ
  simp only [eX2_sitsUp_0, eX2_sitsUp_1, eX2_sitsUp_2, eX2_sitsUp_5, eX2_sitsUp_8, eX2_sitsUp_9, eX2_sitsUp_10, eX2_sitsUp_11, eX2_sitsUp_14, eX2_sitsUp_15, eX2_sitsUp_16, eX2_sitsUp_17, eX2_sitsUp_18, eX2_sitsUp_20, eX2_sitsUp_22, eX2_sitsUp_25, eX2_sitsUp_26, eX2_sitsUp_29, eX2_sitsUp_31, eX2_sitsUp_33, eX2_sitsUp_35, eX2_sitsUp_36, eX2_sitsUp_37, eX2_sitsUp_38, eX2_sitsUp_39, eX2_sitsUp_42, eX2_sitsUp_43, eX2_sitsUp_46, eX2_sitsUp_47, fx0, fx1, fx2, fx3, fx4, nl_int, nl_ref, nl_none, nl_ti, rz_nil, rz_int, rz_ref, rz_long, cf1, cf2, Option.toList_some, Option.toList_none, List.cons_append, List.nil_append, ha.facts]
  refine aC.of (c_hasSleeper ha) ?_
  by_cases h1 : s < 0
  · simp [eX2_sitsUp_0, eX2_sitsUp_1, eX2_sitsUp_2, eX2_sitsUp_5, eX2_sitsUp_8, eX2_sitsUp_9, eX2_sitsUp_10, eX2_sitsUp_11, eX2_sitsUp_14, eX2_sitsUp_15, eX2_sitsUp_16, eX2_sitsUp_17, eX2_sitsUp_18, eX2_sitsUp_20, eX2_sitsUp_22, eX2_sitsUp_25, eX2_sitsUp_26, eX2_sitsUp_29, eX2_sitsUp_31, eX2_sitsUp_33, eX2_sitsUp_35, eX2_sitsUp_36, eX2_sitsUp_37, eX2_sitsUp_38, eX2_sitsUp_39, eX2_sitsUp_42, eX2_sitsUp_43, eX2_sitsUp_46, eX2_sitsUp_47, h1]
  by_cases h2 : σ a 5 ≤ s
  · simp [eX2_sitsUp_0, eX2_sitsUp_1, eX2_sitsUp_2, eX2_sitsUp_5, eX2_sitsUp_8, eX2_sitsUp_9, eX2_sitsUp_10, eX2_sitsUp_11, eX2_sitsUp_14, eX2_sitsUp_15, eX2_sitsUp_16, eX2_sitsUp_17, eX2_sitsUp_18, eX2_sitsUp_20, eX2_sitsUp_22, eX2_sitsUp_25, eX2_sitsUp_26, eX2_sitsUp_29, eX2_sitsUp_31, eX2_sitsUp_33, eX2_sitsUp_35, eX2_sitsUp_36, eX2_sitsUp_37, eX2_sitsUp_38, eX2_sitsUp_39, eX2_sitsUp_42, eX2_sitsUp_43, eX2_sitsUp_46, eX2_sitsUp_47, h1, h2]
  by_cases h3 : 8 ≤ s
  · simp [eX2_sitsUp_0, eX2_sitsUp_1, eX2_sitsUp_2, eX2_sitsUp_5, eX2_sitsUp_8, eX2_sitsUp_9, eX2_sitsUp_10, eX2_sitsUp_11, eX2_sitsUp_14, eX2_sitsUp_15, eX2_sitsUp_16, eX2_sitsUp_17, eX2_sitsUp_18, eX2_sitsUp_20, eX2_sitsUp_22, eX2_sitsUp_25, eX2_sitsUp_26, eX2_sitsUp_29, eX2_sitsUp_31, eX2_sitsUp_33, eX2_sitsUp_35, eX2_sitsUp_36, eX2_sitsUp_37, eX2_sitsUp_38, eX2_sitsUp_39, eX2_sitsUp_42, eX2_sitsUp_43, eX2_sitsUp_46, eX2_sitsUp_47, h1, h2, h3]
  have hin : vp_in s 8 := by
    rw [vp_in_iff]
    rw [Int32.not_lt, Int32.le_iff_toInt_le] at h1
    rw [Int32.le_iff_toInt_le] at h3
    exact ⟨by simpa using h1, by simpa using Int.not_le.mp h3⟩
  simp only [h1, h2, h3, if_false, eX2_sitsUp_0, eX2_sitsUp_1, eX2_sitsUp_2, eX2_sitsUp_5, eX2_sitsUp_8, eX2_sitsUp_9, eX2_sitsUp_10, eX2_sitsUp_11, eX2_sitsUp_14, eX2_sitsUp_15, eX2_sitsUp_16, eX2_sitsUp_17, eX2_sitsUp_18, eX2_sitsUp_20, eX2_sitsUp_22, eX2_sitsUp_25, eX2_sitsUp_26, eX2_sitsUp_29, eX2_sitsUp_31, eX2_sitsUp_33, eX2_sitsUp_35, eX2_sitsUp_36, eX2_sitsUp_37, eX2_sitsUp_38, eX2_sitsUp_39, eX2_sitsUp_42, eX2_sitsUp_43, eX2_sitsUp_46, eX2_sitsUp_47, fx0, fx1, fx2, fx3, fx4, nl_int, nl_ref, nl_none, nl_ti, rz_nil, rz_int, rz_ref, rz_long, cf1, cf2, Option.toList_some, Option.toList_none, List.cons_append, List.nil_append, ha.facts, hin, true_and]
  (repeat' split) <;> simp_all
def upS (set nods : Int32) (g : Nat → Int32) : Nat → Int32
  | 0 => 0
  | p + 1 => if (if g p &&& set = 0 then set else g p &&& set) &&& (nods ^^^ (-1)) = 0 then upS set nods g p ||| (1 <<< (nI p &&& 31)) else upS set nods g p
theorem allUp_loop (ha : isCt a) {w : Nat} {set nods : Int32} (hw : σ a 5 = nI w) (hw6 : w ≤ 8) : ∀ (n p : Nat), p + n = w →
    aE l (d + 2) none 2 cX2_allSittingUp (some .int) (fun r' σ'' => r' = some (.int (upS set nods (σ (a + 5)) w)) ∧ σ'' = σ) 5 [some (.ref a), some (.int set), some (.int nods), some (.int (upS set nods (σ (a + 5)) p)), some (.int (nI p))] [] σ := by
  intro n
  induction n with
  | zero =>
    intro p hp
    have hp : p = w := by omega
    subst hp
    have h1 : nI p ≤ nI p := (nile (by omega) (by omega)).mpr (Nat.le_refl p)
    simp only [eX2_allSittingUp_5, eX2_allSittingUp_7, eX2_allSittingUp_8, eX2_allSittingUp_11, eX2_allSittingUp_45, eX2_allSittingUp_46, fx0, fx1, fx2, fx3, fx4, nl_int, nl_ref, nl_none, nl_ti, rz_nil, rz_int, rz_ref, rz_long, cf1, cf2, Option.toList_some, Option.toList_none, List.cons_append, List.nil_append, ha.facts, hw, h1, if_true]
    simp
  | succ n ih =>
    intro p hp
    have h1 : ¬ nI w ≤ nI p := by rw [nile (by omega) (by omega)]; omega
    have h2 : ¬ (8 : Int32) ≤ nI p := by rw [show (8 : Int32) = nI 8 from rfl, nile (by omega) (by omega)]; omega
    have h0 : ¬ nI p < 0 := by rw [show (0 : Int32) = nI 0 from rfl, nilt (by omega) (by omega)]; omega
    have hcl : (nI p).toNatClampNeg = p := nic (by omega)
    have hinc : nI p + 1 = nI (p + 1) := nI_1 p
    rw [eX2_allSittingUp_5]
    simp only [eX2_allSittingUp_7, eX2_allSittingUp_8, eX2_allSittingUp_11, eX2_allSittingUp_14, eX2_allSittingUp_16, eX2_allSittingUp_18, eX2_allSittingUp_21, eX2_allSittingUp_22, eX2_allSittingUp_24, eX2_allSittingUp_25, eX2_allSittingUp_26, eX2_allSittingUp_29, eX2_allSittingUp_32, eX2_allSittingUp_33, eX2_allSittingUp_34, eX2_allSittingUp_36, eX2_allSittingUp_37, eX2_allSittingUp_38, eX2_allSittingUp_39, eX2_allSittingUp_42, fx0, fx1, fx2, fx3, fx4, nl_int, nl_ref, nl_none, nl_ti, rz_nil, rz_int, rz_ref, rz_long, cf1, cf2, Option.toList_some, Option.toList_none, List.cons_append, List.nil_append, ha.facts, hw, h1, h2, if_false]
    refine aC.of (c_sitsUp ha) ?_
    have := ih (p + 1) (by omega)
    simp only [upS] at this
    by_cases hc : (if σ (a + 5) p &&& set = 0 then set else σ (a + 5) p &&& set) &&& (nods ^^^ (-1)) = 0
    · simp only [hw, h1, h2, h0, hcl, hc, hinc, if_false, if_true, eX2_allSittingUp_7, eX2_allSittingUp_8, eX2_allSittingUp_11, eX2_allSittingUp_14, eX2_allSittingUp_16, eX2_allSittingUp_18, eX2_allSittingUp_21, eX2_allSittingUp_22, eX2_allSittingUp_24, eX2_allSittingUp_25, eX2_allSittingUp_26, eX2_allSittingUp_29, eX2_allSittingUp_32, eX2_allSittingUp_33, eX2_allSittingUp_34, eX2_allSittingUp_36, eX2_allSittingUp_37, eX2_allSittingUp_38, eX2_allSittingUp_39, eX2_allSittingUp_42, fx0, fx1, fx2, fx3, fx4, nl_int, nl_ref, nl_none, nl_ti, rz_nil, rz_int, rz_ref, rz_long, cf1, cf2, Option.toList_some, Option.toList_none, List.cons_append, List.nil_append] at this ⊢
      exact this
    · simp only [hw, h1, h2, h0, hcl, hc, hinc, if_false, if_true, eX2_allSittingUp_7, eX2_allSittingUp_8, eX2_allSittingUp_11, eX2_allSittingUp_14, eX2_allSittingUp_16, eX2_allSittingUp_18, eX2_allSittingUp_21, eX2_allSittingUp_22, eX2_allSittingUp_24, eX2_allSittingUp_25, eX2_allSittingUp_26, eX2_allSittingUp_29, eX2_allSittingUp_32, eX2_allSittingUp_33, eX2_allSittingUp_34, eX2_allSittingUp_36, eX2_allSittingUp_37, eX2_allSittingUp_38, eX2_allSittingUp_39, eX2_allSittingUp_42, fx0, fx1, fx2, fx3, fx4, nl_int, nl_ref, nl_none, nl_ti, rz_nil, rz_int, rz_ref, rz_long, cf1, cf2, Option.toList_some, Option.toList_none, List.cons_append, List.nil_append] at this ⊢
      exact this
theorem c_allUp (ha : isCt a) {w : Nat} {set nods : Int32} (hw : σ a 5 = nI w) (hw6 : w ≤ 8) : Sem l (d + 3) 18 [.ref a, .int set, .int nods] σ (some (.int (upS set nods (σ (a + 5)) w))) σ := by
  refine Sem_of rfl (Nat.le_of_ble_eq_true rfl) ?_
  show aE l (d + 2) none 2 cX2_allSittingUp (some .int) _ 0 [some (.ref a), some (.int set), some (.int nods), none, none] [] σ
  simp only [eX2_allSittingUp_0, eX2_allSittingUp_1, eX2_allSittingUp_2, eX2_allSittingUp_3, fx0, fx1, fx2, fx3, fx4, nl_int, nl_ref, nl_none, nl_ti, rz_nil, rz_int, rz_ref, rz_long, cf1, cf2, Option.toList_some, Option.toList_none, List.cons_append, List.nil_append]
  exact allUp_loop ha hw hw6 w 0 (by omega)
end CT
