/-! rows that are tried: the leaves, both sides -/
def trW (w : Nat) (set B : Int32) (mo le : Nat → Int32) (rg : Int32) (f : Nat → Int32) : Nat → Int32 := pre w (fun q => tE set rg B (mo q) (le q) (f q) q) f
def bl (b : Int32) (n : Nat) : Int32 := if nI n = b then 1 else 0
def trI (w : Nat) (set B : Int32) (mo le : Nat → Int32) (b : Int32) (f : Nat → Int32) : Nat → Nat → Int32
  | 0 => f
  | n + 1 => trW w set B mo le (bl b n) (trI w set B mo le b f n)
def trN (w : Nat) (set B : Int32) (mo le lim : Nat → Int32) (b : Int32) (f : Nat → Int32) : Nat → Int32
  | 0 => 0
  | n + 1 => trN w set B mo le lim b f n + bc (nodS set (bl b n) B mo le lim (trI w set B mo le b f n) w)
theorem sy_sr (σ : aW) (a b n : Nat) : sy σ a b 0 0 n = sr σ b (pre n (σ a) (σ b)) := by
  funext a' k'
  rw [sy_if]
  by_cases h : a' = b
  · subst h
    rw [sr_eq]
    simp only [pre, true_and]
  · rw [sr_ne h, if_neg (fun e => h e.1)]
theorem i07 : vp_in 0 7 := vin (n := 0) (by decide) (by decide)
theorem c00 : (0 : Int32).toNatClampNeg = 0 := by decide
theorem trI_s (w : Nat) (set B : Int32) (mo le : Nat → Int32) (b : Int32) (f : Nat → Int32) (n : Nat) : trI w set B mo le b f (n + 1) = trW w set B mo le (bl b n) (trI w set B mo le b f n) := by rw [trI]
theorem trI_hi {w : Nat} {set B : Int32} {mo le : Nat → Int32} {b : Int32} {f : Nat → Int32} : ∀ n q, w ≤ q → trI w set B mo le b f n q = f q := by
  intro n
  induction n with
  | zero => exact fun _ _ => rfl
  | succ n ih =>
    intro q hq
    rw [trI_s]
    unfold trW pre
    rw [if_neg (by omega)]
    exact ih q hq
theorem trI_congr {w : Nat} {set B B' : Int32} {mo le mo' le' : Nat → Int32} {b : Int32} {f f' : Nat → Int32} (hB : B = B') (h : ∀ q, q < w → mo q = mo' q ∧ le q = le' q) (hf : ∀ q, q < w → f q = f' q) : ∀ n q, q < w → trI w set B mo le b f n q = trI w set B' mo' le' b f' n q := by
  subst hB
  intro n
  induction n with
  | zero => exact hf
  | succ n ih =>
    intro q hq
    rw [trI_s, trI_s]
    unfold trW pre
    rw [if_pos hq, if_pos hq]
    show tE _ _ _ (mo q) (le q) _ _ = tE _ _ _ (mo' q) (le' q) _ _
    rw [(h q hq).1, (h q hq).2, ih q hq]
theorem trN_congr {w : Nat} {set B B' : Int32} {mo le lim mo' le' lim' : Nat → Int32} {b : Int32} {f f' : Nat → Int32} (hB : B = B') (h : ∀ q, q < w → mo q = mo' q ∧ le q = le' q ∧ lim q = lim' q) (hf : ∀ q, q < w → f q = f' q) : ∀ n, trN w set B mo le lim b f n = trN w set B' mo' le' lim' b f' n := by
  intro n
  induction n with
  | zero => rfl
  | succ n ih =>
    show trN _ _ _ _ _ _ _ _ n + bc _ = trN _ _ _ _ _ _ _ _ n + bc _
    rw [ih, nodS_congr hB w (fun q hq => ⟨(h q hq).1, (h q hq).2.1, (h q hq).2.2, trI_congr hB (fun q hq => ⟨(h q hq).1, (h q hq).2.1⟩) hf n q hq⟩)]
theorem bc_6 : ∀ m, m < 64 → ∃ j, j < 7 ∧ bc (nI m) = nI j := by decide +kernel
theorem trN_lt {w : Nat} {set B : Int32} {mo le lim : Nat → Int32} {b : Int32} {f : Nat → Int32} (hw : w ≤ 6) : ∀ n, n ≤ 6 → ∃ j, j ≤ 6 * n ∧ trN w set B mo le lim b f n = nI j := by
  intro n
  induction n with
  | zero => exact fun _ => ⟨0, by omega, rfl⟩
  | succ n ih =>
    intro hn
    obtain ⟨j, h1, h2⟩ := ih (by omega)
    obtain ⟨m, h3, h4⟩ := nodS_lt set (bl b n) B mo le lim (trI w set B mo le b f n) w (by omega)
    have hp : 2 ^ w ≤ 2 ^ 6 := Nat.pow_le_pow_right (by decide) hw
    obtain ⟨i, h5, h6⟩ := bc_6 m (by omega)
    refine ⟨j + i, by omega, ?_⟩
    show trN _ _ _ _ _ _ _ _ n + bc _ = _
    rw [h2, h4, h6, nI_add]
section TR
variable {l : Launch} {d : Nat} {σ : aW}
theorem c_layRow : Sem l (d + 1) 50 [.ref 91, .ref 15] σ none (sr σ 94 (pre 6 (σ 16) (σ 94))) := by
  refine Sem_of rfl (Nat.le_of_ble_eq_true rfl) ?_
  show aE l d none 8 cX8_layRow none _ 0 [some (.ref 91), some (.ref 15)] [] σ
  simp only [eX8_layRow_0, eX8_layRow_1, eX8_layRow_4, eX8_layRow_5, eX8_layRow_6, eX8_layRow_9, eX8_layRow_10, eX8_layRow_11, eX8_layRow_12, eX8_layRow_14, eX8_layRow_17, fx0, fx1, fx2, fx3, fx4, nl_int, nl_ref, nl_none, nl_ti, rz_nil, rz_int, rz_ref, rz_long, cf1, cf2, Option.toList_some, Option.toList_none, List.cons_append, List.nil_append, i07, c00, or_true, true_and, and_true, sy_sr, Nat.le_refl]
theorem nods_c {w h : Nat} {b : Int32} (hw : σ 9 4 = nI w) (hw6 : w ≤ 6) (hh : σ 9 0 = nI h) (hh6 : h ≤ 6) : ∀ n k, k + n = h →
    aE l (d + 2) none 8 cX8_nodsOfAll (some .int) (fun r' σ'' => r' = some (.int (trN w (nI (2 ^ w - 1)) (σ 9 3) (σ 11) (σ 12) (σ 13) b (σ 94) h)) ∧ σ'' = sr σ 94 (trI w (nI (2 ^ w - 1)) (σ 9 3) (σ 11) (σ 12) b (σ 94) h)) 5 [some (.ref 91), some (.ref 9), some (.int b), some (.int (trN w (nI (2 ^ w - 1)) (σ 9 3) (σ 11) (σ 12) (σ 13) b (σ 94) k)), some (.int (nI k))] [] (sr σ 94 (trI w (nI (2 ^ w - 1)) (σ 9 3) (σ 11) (σ 12) b (σ 94) k)) := by
  intro n
  induction n with
  | zero =>
    intro k hkn
    have hkn : k = h := by omega
    subst hkn
    have h1 : nI k ≤ nI k := (nile (by omega) (by omega)).mpr (Nat.le_refl k)
    simp only [eX8_nodsOfAll_5, eX8_nodsOfAll_7, eX8_nodsOfAll_8, eX8_nodsOfAll_11, eX8_nodsOfAll_58, eX8_nodsOfAll_59, fx0, fx1, fx2, fx3, fx4, nl_int, nl_ref, nl_none, nl_ti, rz_nil, rz_int, rz_ref, rz_long, cf1, cf2, Option.toList_some, Option.toList_none, List.cons_append, List.nil_append, su_at, su_ne, sr_eq, sr_ne, ne_eq, Nat.reduceEqDiff, not_false_eq_true, not_true_eq_false, if_true, if_false, hh, h1, if_true, true_or, or_true, true_and, and_true, and_self]
  | succ n ih =>
    intro k hkn
    have h1 : ¬ nI h ≤ nI k := by rw [nile (by omega) (by omega)]; omega
    have h2 : ¬ (6 : Int32) ≤ nI k := by rw [show (6 : Int32) = nI 6 from rfl, nile (by omega) (by omega)]; omega
    rw [eX8_nodsOfAll_5]
    simp only [eX8_nodsOfAll_7, eX8_nodsOfAll_8, eX8_nodsOfAll_11, eX8_nodsOfAll_14, eX8_nodsOfAll_16, eX8_nodsOfAll_18, eX8_nodsOfAll_21, eX8_nodsOfAll_22, eX8_nodsOfAll_23, eX8_nodsOfAll_24, eX8_nodsOfAll_27, eX8_nodsOfAll_28, eX8_nodsOfAll_29, eX8_nodsOfAll_30, fx0, fx1, fx2, fx3, fx4, nl_int, nl_ref, nl_none, nl_ti, rz_nil, rz_int, rz_ref, rz_long, cf1, cf2, Option.toList_some, Option.toList_none, List.cons_append, List.nil_append, su_at, su_ne, sr_eq, sr_ne, ne_eq, Nat.reduceEqDiff, not_false_eq_true, not_true_eq_false, if_true, if_false, hh, h1, h2, if_false, i07, c00, or_true, true_and]
    refine aC.of (c_everybody (Or.inr rfl)) ?_
    simp only [su_at, su_ne, sr_eq, sr_ne, ne_eq, Nat.reduceEqDiff, not_false_eq_true, not_true_eq_false, if_true, if_false, hw, ev6 w hw6]
    have hbl : ∀ (Q : Option Value → aW → Prop) ls st σ', aE l (d + 2) none 8 cX8_nodsOfAll (some .int) Q 44 ls (.int (bl b k) :: st) σ' → aE l (d + 2) none 8 cX8_nodsOfAll (some .int) Q 36 ls (.int b :: .int (nI k) :: st) σ' := by
      intro Q ls st σ' hQ
      unfold bl at hQ
      by_cases e : nI k = b
      · rw [if_pos e] at hQ
        simp only [eX8_nodsOfAll_36, eX8_nodsOfAll_39, eX8_nodsOfAll_40, eX8_nodsOfAll_43, e, if_true]
        exact hQ
      · rw [if_neg e] at hQ
        simp only [eX8_nodsOfAll_36, eX8_nodsOfAll_39, eX8_nodsOfAll_40, eX8_nodsOfAll_43, e, if_false]
        exact hQ
    simp only [eX8_nodsOfAll_33, eX8_nodsOfAll_35, fx0, fx1, fx2, fx3, fx4, nl_int, nl_ref, nl_none, nl_ti, rz_nil, rz_int, rz_ref, rz_long, cf1, cf2, Option.toList_some, Option.toList_none, List.cons_append, List.nil_append]
    refine hbl _ _ _ _ ?_
    simp only [eX8_nodsOfAll_44, fx0, fx1, fx2, fx3, fx4, nl_int, nl_ref, nl_none, nl_ti, rz_nil, rz_int, rz_ref, rz_long, cf1, cf2, Option.toList_some, Option.toList_none, List.cons_append, List.nil_append]
    refine aC.of (c_spendHour (w := w) (Or.inr rfl) rfl rfl (Or.inr (by decide)) (by simp only [su_at, su_ne, sr_eq, sr_ne, ne_eq, Nat.reduceEqDiff, not_false_eq_true, not_true_eq_false, if_true, if_false]; exact hw) hw6) ?_
    simp only [eX8_nodsOfAll_47, fx0, fx1, fx2, fx3, fx4, nl_int, nl_ref, nl_none, nl_ti, rz_nil, rz_int, rz_ref, rz_long, cf1, cf2, Option.toList_some, Option.toList_none, List.cons_append, List.nil_append]
    refine aC.of c_bitCount ?_
    simp only [eX8_nodsOfAll_50, eX8_nodsOfAll_51, eX8_nodsOfAll_52, eX8_nodsOfAll_55, fx0, fx1, fx2, fx3, fx4, nl_int, nl_ref, nl_none, nl_ti, rz_nil, rz_int, rz_ref, rz_long, cf1, cf2, Option.toList_some, Option.toList_none, List.cons_append, List.nil_append, sr_sr, nI_1]
    exact ih (k + 1) (by omega)
theorem c_nodsOfAll {w h : Nat} {b : Int32} (hw : σ 9 4 = nI w) (hw6 : w ≤ 6) (hh : σ 9 0 = nI h) (hh6 : h ≤ 6) : Sem l (d + 3) 57 [.ref 91, .ref 9, .int b] σ (some (.int (trN w (nI (2 ^ w - 1)) (σ 9 3) (σ 11) (σ 12) (σ 13) b (σ 94) h))) (sr σ 94 (trI w (nI (2 ^ w - 1)) (σ 9 3) (σ 11) (σ 12) b (σ 94) h)) := by
  refine Sem_of rfl (Nat.le_of_ble_eq_true rfl) ?_
  show aE l (d + 2) none 8 cX8_nodsOfAll (some .int) _ 0 [some (.ref 91), some (.ref 9), some (.int b), none, none] [] σ
  simp only [eX8_nodsOfAll_0, eX8_nodsOfAll_1, eX8_nodsOfAll_2, eX8_nodsOfAll_3, fx0, fx1, fx2, fx3, fx4, nl_int, nl_ref, nl_none, nl_ti, rz_nil, rz_int, rz_ref, rz_long, cf1, cf2, Option.toList_some, Option.toList_none, List.cons_append, List.nil_append]
  have := nods_c (l := l) (d := d) (b := b) hw hw6 hh hh6 h 0 (by omega)
  rw [show trI w (nI (2 ^ w - 1)) (σ 9 3) (σ 11) (σ 12) b (σ 94) 0 = σ 94 from rfl, sr_self] at this
  exact this
theorem c_nodsWithBell {P : Option Value → aW → Prop} {w h : Nat} {b : Int32} {g : Nat → Int32} (hw : σ 9 4 = nI w) (hw6 : w ≤ 6) (hh : σ 9 0 = nI h) (hh6 : h ≤ 6) (hP : ∀ g', P (some (.int (trN w (nI (2 ^ w - 1)) (σ 9 3) (σ 11) (σ 12) (σ 13) b (σ 16) h))) (sr σ 94 g')) : aC l (d + 4) 55 [.ref 91, .ref 9, .ref 15, .int b] (sr σ 94 g) P := by
  refine aC_of rfl (Nat.le_of_ble_eq_true rfl) ?_
  show aE l (d + 3) none 8 cX8_nodsWithBell (some .int) _ 0 [some (.ref 91), some (.ref 9), some (.ref 15), some (.int b)] [] (sr σ 94 g)
  simp only [eX8_nodsWithBell_0, eX8_nodsWithBell_1, eX8_nodsWithBell_2, fx0, fx1, fx2, fx3, fx4, nl_int, nl_ref, nl_none, nl_ti, rz_nil, rz_int, rz_ref, rz_long, cf1, cf2, Option.toList_some, Option.toList_none, List.cons_append, List.nil_append]
  refine aC.of c_layRow ?_
  simp only [eX8_nodsWithBell_5, eX8_nodsWithBell_6, eX8_nodsWithBell_7, eX8_nodsWithBell_8, fx0, fx1, fx2, fx3, fx4, nl_int, nl_ref, nl_none, nl_ti, rz_nil, rz_int, rz_ref, rz_long, cf1, cf2, Option.toList_some, Option.toList_none, List.cons_append, List.nil_append, su_at, su_ne, sr_eq, sr_ne, ne_eq, Nat.reduceEqDiff, not_false_eq_true, not_true_eq_false, if_true, if_false, sr_sr]
  refine aC.of (c_nodsOfAll (w := w) (h := h) (by simp only [su_at, su_ne, sr_eq, sr_ne, ne_eq, Nat.reduceEqDiff, not_false_eq_true, not_true_eq_false, if_true, if_false]; exact hw) hw6 (by simp only [su_at, su_ne, sr_eq, sr_ne, ne_eq, Nat.reduceEqDiff, not_false_eq_true, not_true_eq_false, if_true, if_false]; exact hh) hh6) ?_
  simp only [eX8_nodsWithBell_11, fx0, fx1, fx2, fx3, fx4, nl_int, nl_ref, nl_none, nl_ti, rz_nil, rz_int, rz_ref, rz_long, cf1, cf2, Option.toList_some, Option.toList_none, List.cons_append, List.nil_append, su_at, su_ne, sr_eq, sr_ne, ne_eq, Nat.reduceEqDiff, not_false_eq_true, not_true_eq_false, if_true, if_false, sr_sr]
  rw [trN_congr (f' := σ 16) rfl (fun q _ => ⟨rfl, rfl, rfl⟩) (fun q hq => by unfold pre; exact if_pos (by omega)) h]
  exact hP _
theorem c_nodsWithCoffee {P : Option Value → aW → Prop} {w h p : Nat} {g : Nat → Int32} (hw : σ 9 4 = nI w) (hw6 : w ≤ 6) (hp : p < w) (hh : σ 9 0 = nI h) (hh6 : h ≤ 6) (hP : ∀ g', P (some (.int (trN w (nI (2 ^ w - 1)) (σ 9 3) (σ 11) (σ 12) (σ 13) (-1) (upd (σ 16) p (mx0 (σ 16 p - 30))) h))) (sr σ 94 g')) : aC l (d + 4) 56 [.ref 91, .ref 9, .ref 15, .int (nI p)] (sr σ 94 g) P := by
  refine aC_of rfl (Nat.le_of_ble_eq_true rfl) ?_
  show aE l (d + 3) none 8 cX8_nodsWithCoffee (some .int) _ 0 [some (.ref 91), some (.ref 9), some (.ref 15), some (.int (nI p))] [] (sr σ 94 g)
  have h0 : ¬ nI p < 0 := nI_pos (by omega)
  have h6 : ¬ (6 : Int32) ≤ nI p := by rw [show (6 : Int32) = nI 6 from rfl, nile (by omega) (by omega)]; omega
  have hin : vp_in (nI p) 6 := vin (by omega) (by omega)
  have hcl : (nI p).toNatClampNeg = p := nic (by omega)
  simp only [eX8_nodsWithCoffee_0, eX8_nodsWithCoffee_1, eX8_nodsWithCoffee_2, fx0, fx1, fx2, fx3, fx4, nl_int, nl_ref, nl_none, nl_ti, rz_nil, rz_int, rz_ref, rz_long, cf1, cf2, Option.toList_some, Option.toList_none, List.cons_append, List.nil_append]
  refine aC.of c_layRow ?_
  simp only [eX8_nodsWithCoffee_5, eX8_nodsWithCoffee_6, eX8_nodsWithCoffee_9, eX8_nodsWithCoffee_10, eX8_nodsWithCoffee_12, eX8_nodsWithCoffee_15, eX8_nodsWithCoffee_16, eX8_nodsWithCoffee_19, eX8_nodsWithCoffee_20, eX8_nodsWithCoffee_21, eX8_nodsWithCoffee_22, eX8_nodsWithCoffee_23, eX8_nodsWithCoffee_26, eX8_nodsWithCoffee_27, eX8_nodsWithCoffee_28, eX8_nodsWithCoffee_29, eX8_nodsWithCoffee_30, fx0, fx1, fx2, fx3, fx4, nl_int, nl_ref, nl_none, nl_ti, rz_nil, rz_int, rz_ref, rz_long, cf1, cf2, Option.toList_some, Option.toList_none, List.cons_append, List.nil_append, su_at, su_ne, sr_eq, sr_ne, ne_eq, Nat.reduceEqDiff, not_false_eq_true, not_true_eq_false, if_true, if_false, sr_sr, h0, h6, if_false, i07, c00, or_true, hin, hcl, true_and]
  refine aC.of c_afterCoffee ?_
  simp only [eX8_nodsWithCoffee_33, eX8_nodsWithCoffee_34, eX8_nodsWithCoffee_35, eX8_nodsWithCoffee_36, eX8_nodsWithCoffee_37, fx0, fx1, fx2, fx3, fx4, nl_int, nl_ref, nl_none, nl_ti, rz_nil, rz_int, rz_ref, rz_long, cf1, cf2, Option.toList_some, Option.toList_none, List.cons_append, List.nil_append, su_at, su_ne, sr_eq, sr_ne, ne_eq, Nat.reduceEqDiff, not_false_eq_true, not_true_eq_false, if_true, if_false, hin, hcl, true_and, su_sr]
  refine aC.of (c_nodsOfAll (w := w) (h := h) (by simp only [su_at, su_ne, sr_eq, sr_ne, ne_eq, Nat.reduceEqDiff, not_false_eq_true, not_true_eq_false, if_true, if_false]; exact hw) hw6 (by simp only [su_at, su_ne, sr_eq, sr_ne, ne_eq, Nat.reduceEqDiff, not_false_eq_true, not_true_eq_false, if_true, if_false]; exact hh) hh6) ?_
  simp only [eX8_nodsWithCoffee_40, fx0, fx1, fx2, fx3, fx4, nl_int, nl_ref, nl_none, nl_ti, rz_nil, rz_int, rz_ref, rz_long, cf1, cf2, Option.toList_some, Option.toList_none, List.cons_append, List.nil_append, su_at, su_ne, sr_eq, sr_ne, ne_eq, Nat.reduceEqDiff, not_false_eq_true, not_true_eq_false, if_true, if_false, sr_sr]
  rw [trN_congr (f' := upd (σ 16) p (mx0 (σ 16 p - 30))) rfl (fun q _ => ⟨rfl, rfl, rfl⟩) (fun q hq => by
    unfold upd pre
    rw [if_pos (show p < 6 by omega), if_pos (show q < 6 by omega)]) h]
  exact hP _
theorem m_save : Sem l (d + 1) 126 [.ref 109] σ none (sr σ 123 (pre 6 (σ 114) (σ 123))) := by
  refine Sem_of rfl (Nat.le_of_ble_eq_true rfl) ?_
  show aE l d none 10 cX10_save none _ 0 [some (.ref 109), none] [] σ
  simp only [eX10_save_0, eX10_save_1, fx0, fx1, fx2, fx3, fx4, nl_int, nl_ref, nl_none, nl_ti, rz_nil, rz_int, rz_ref, rz_long, cf1, cf2, Option.toList_some, Option.toList_none, List.cons_append, List.nil_append]
  have : ∀ n k, k + n = 6 → aE l d none 10 cX10_save none (fun r' σ'' => r' = none ∧ σ'' = sr σ 123 (pre 6 (σ 114) (σ 123))) 2 [some (.ref 109), some (.int (nI k))] [] (sr σ 123 (pre k (σ 114) (σ 123))) := by
    intro n
    induction n with
    | zero =>
      intro k hkn
      have hkn : k = 6 := by omega
      subst hkn
      simp only [eX10_save_2, eX10_save_3, eX10_save_5, eX10_save_26, fx0, fx1, fx2, fx3, fx4, nl_int, nl_ref, nl_none, nl_ti, rz_nil, rz_int, rz_ref, rz_long, cf1, cf2, Option.toList_some, Option.toList_none, List.cons_append, List.nil_append, show (6 : Int32) ≤ nI 6 by decide, if_true, true_or, or_true, true_and, and_true, and_self]
    | succ n ih =>
      intro k hkn
      have h2 : ¬ (6 : Int32) ≤ nI k := by rw [show (6 : Int32) = nI 6 from rfl, nile (by omega) (by omega)]; omega
      have hin : vp_in (nI k) 6 := vin (by omega) (by omega)
      have hin2 : vp_in (nI k) 19 := vin (by omega) (by omega)
      have hcl : (nI k).toNatClampNeg = k := nic (by omega)
      rw [eX10_save_2]
      simp only [eX10_save_3, eX10_save_5, eX10_save_8, eX10_save_9, eX10_save_12, eX10_save_13, eX10_save_14, eX10_save_17, eX10_save_18, eX10_save_19, eX10_save_20, eX10_save_23, fx0, fx1, fx2, fx3, fx4, nl_int, nl_ref, nl_none, nl_ti, rz_nil, rz_int, rz_ref, rz_long, cf1, cf2, Option.toList_some, Option.toList_none, List.cons_append, List.nil_append, su_at, su_ne, sr_eq, sr_ne, ne_eq, Nat.reduceEqDiff, not_false_eq_true, not_true_eq_false, if_true, if_false, h2, if_false, hin, hin2, hcl, nI_1, true_and, pre_step (h := σ 114) rfl]
      exact ih (k + 1) (by omega)
  have := this 6 0 (by omega)
  rw [pre_0, sr_self] at this
  exact this
theorem m_putBack : Sem l (d + 1) 127 [.ref 109] σ none (sr σ 114 (pre 6 (σ 123) (σ 114))) := by
  refine Sem_of rfl (Nat.le_of_ble_eq_true rfl) ?_
  show aE l d none 10 cX10_putBack none _ 0 [some (.ref 109), none] [] σ
  simp only [eX10_putBack_0, eX10_putBack_1, fx0, fx1, fx2, fx3, fx4, nl_int, nl_ref, nl_none, nl_ti, rz_nil, rz_int, rz_ref, rz_long, cf1, cf2, Option.toList_some, Option.toList_none, List.cons_append, List.nil_append]
  have : ∀ n k, k + n = 6 → aE l d none 10 cX10_putBack none (fun r' σ'' => r' = none ∧ σ'' = sr σ 114 (pre 6 (σ 123) (σ 114))) 2 [some (.ref 109), some (.int (nI k))] [] (sr σ 114 (pre k (σ 123) (σ 114))) := by
    intro n
    induction n with
    | zero =>
      intro k hkn
      have hkn : k = 6 := by omega
      subst hkn
      simp only [eX10_putBack_2, eX10_putBack_3, eX10_putBack_5, eX10_putBack_26, fx0, fx1, fx2, fx3, fx4, nl_int, nl_ref, nl_none, nl_ti, rz_nil, rz_int, rz_ref, rz_long, cf1, cf2, Option.toList_some, Option.toList_none, List.cons_append, List.nil_append, show (6 : Int32) ≤ nI 6 by decide, if_true, true_or, or_true, true_and, and_true, and_self]
    | succ n ih =>
      intro k hkn
      have h2 : ¬ (6 : Int32) ≤ nI k := by rw [show (6 : Int32) = nI 6 from rfl, nile (by omega) (by omega)]; omega
      have hin : vp_in (nI k) 6 := vin (by omega) (by omega)
      have hin2 : vp_in (nI k) 19 := vin (by omega) (by omega)
      have hcl : (nI k).toNatClampNeg = k := nic (by omega)
      rw [eX10_putBack_2]
      simp only [eX10_putBack_3, eX10_putBack_5, eX10_putBack_8, eX10_putBack_9, eX10_putBack_12, eX10_putBack_13, eX10_putBack_14, eX10_putBack_17, eX10_putBack_18, eX10_putBack_19, eX10_putBack_20, eX10_putBack_23, fx0, fx1, fx2, fx3, fx4, nl_int, nl_ref, nl_none, nl_ti, rz_nil, rz_int, rz_ref, rz_long, cf1, cf2, Option.toList_some, Option.toList_none, List.cons_append, List.nil_append, su_at, su_ne, sr_eq, sr_ne, ne_eq, Nat.reduceEqDiff, not_false_eq_true, not_true_eq_false, if_true, if_false, h2, if_false, hin, hin2, hcl, nI_1, true_and, pre_step (h := σ 123) rfl]
      exact ih (k + 1) (by omega)
  have := this 6 0 (by omega)
  rw [pre_0, sr_self] at this
  exact this
theorem nods_m {w h : Nat} {b : Int32} (hw : σ 109 4 = nI w) (hw6 : w ≤ 6) (hh : σ 109 0 = nI h) (hh6 : h ≤ 6) : ∀ n k, k + n = h →
    aE l (d + 2) none 10 cX10_nodsOfAll (some .int) (fun r' σ'' => r' = some (.int (trN w (nI (2 ^ w - 1)) (σ 109 3) (σ 110) (σ 111) (σ 112) b (σ 114) h)) ∧ σ'' = sr σ 114 (pre 6 (σ 123) (σ 114))) 4 [some (.ref 109), some (.int b), some (.int (trN w (nI (2 ^ w - 1)) (σ 109 3) (σ 110) (σ 111) (σ 112) b (σ 114) k)), some (.int (nI k))] [] (sr σ 114 (trI w (nI (2 ^ w - 1)) (σ 109 3) (σ 110) (σ 111) b (σ 114) k)) := by
  intro n
  induction n with
  | zero =>
    intro k hkn
    have hkn : k = h := by omega
    subst hkn
    have h1 : nI k ≤ nI k := (nile (by omega) (by omega)).mpr (Nat.le_refl k)
    simp only [eX10_nodsOfAll_4, eX10_nodsOfAll_5, eX10_nodsOfAll_6, eX10_nodsOfAll_9, eX10_nodsOfAll_46, eX10_nodsOfAll_47, fx0, fx1, fx2, fx3, fx4, nl_int, nl_ref, nl_none, nl_ti, rz_nil, rz_int, rz_ref, rz_long, cf1, cf2, Option.toList_some, Option.toList_none, List.cons_append, List.nil_append, su_at, su_ne, sr_eq, sr_ne, ne_eq, Nat.reduceEqDiff, not_false_eq_true, not_true_eq_false, if_true, if_false, hh, h1, if_true]
    refine aC.of m_putBack ?_
    simp only [eX10_nodsOfAll_50, eX10_nodsOfAll_51, fx0, fx1, fx2, fx3, fx4, nl_int, nl_ref, nl_none, nl_ti, rz_nil, rz_int, rz_ref, rz_long, cf1, cf2, Option.toList_some, Option.toList_none, List.cons_append, List.nil_append, su_at, su_ne, sr_eq, sr_ne, ne_eq, Nat.reduceEqDiff, not_false_eq_true, not_true_eq_false, if_true, if_false, sr_sr, true_and]
    congr 1
    funext q
    unfold pre
    by_cases e : q < 6
    · rw [if_pos e, if_pos e]
    · rw [if_neg e, if_neg e]
      exact trI_hi k q (by omega)
  | succ n ih =>
    intro k hkn
    have h1 : ¬ nI h ≤ nI k := by rw [nile (by omega) (by omega)]; omega
    rw [eX10_nodsOfAll_4]
    simp only [eX10_nodsOfAll_5, eX10_nodsOfAll_6, eX10_nodsOfAll_9, eX10_nodsOfAll_12, eX10_nodsOfAll_13, eX10_nodsOfAll_14, eX10_nodsOfAll_15, eX10_nodsOfAll_16, eX10_nodsOfAll_19, eX10_nodsOfAll_20, eX10_nodsOfAll_21, eX10_nodsOfAll_22, eX10_nodsOfAll_23, fx0, fx1, fx2, fx3, fx4, nl_int, nl_ref, nl_none, nl_ti, rz_nil, rz_int, rz_ref, rz_long, cf1, cf2, Option.toList_some, Option.toList_none, List.cons_append, List.nil_append, su_at, su_ne, sr_eq, sr_ne, ne_eq, Nat.reduceEqDiff, not_false_eq_true, not_true_eq_false, if_true, if_false, hh, h1, if_false, hw, ev6 w hw6]
    have hbl : ∀ (Q : Option Value → aW → Prop) ls st σ', aE l (d + 2) none 10 cX10_nodsOfAll (some .int) Q 32 ls (.int (bl b k) :: st) σ' → aE l (d + 2) none 10 cX10_nodsOfAll (some .int) Q 24 ls (.int b :: .int (nI k) :: st) σ' := by
      intro Q ls st σ' hQ
      unfold bl at hQ
      by_cases e : nI k = b
      · rw [if_pos e] at hQ
        simp only [eX10_nodsOfAll_24, eX10_nodsOfAll_27, eX10_nodsOfAll_28, eX10_nodsOfAll_31, e, if_true]
        exact hQ
      · rw [if_neg e] at hQ
        simp only [eX10_nodsOfAll_24, eX10_nodsOfAll_27, eX10_nodsOfAll_28, eX10_nodsOfAll_31, e, if_false]
        exact hQ
    refine hbl _ _ _ _ ?_
    simp only [eX10_nodsOfAll_32, fx0, fx1, fx2, fx3, fx4, nl_int, nl_ref, nl_none, nl_ti, rz_nil, rz_int, rz_ref, rz_long, cf1, cf2, Option.toList_some, Option.toList_none, List.cons_append, List.nil_append]
    refine aC.of (m_tire (w := w) (by simp only [su_at, su_ne, sr_eq, sr_ne, ne_eq, Nat.reduceEqDiff, not_false_eq_true, not_true_eq_false, if_true, if_false]; exact hw) hw6) ?_
    simp only [eX10_nodsOfAll_35, fx0, fx1, fx2, fx3, fx4, nl_int, nl_ref, nl_none, nl_ti, rz_nil, rz_int, rz_ref, rz_long, cf1, cf2, Option.toList_some, Option.toList_none, List.cons_append, List.nil_append]
    refine aC.of m_bits ?_
    have hp : 2 ^ w ≤ 2 ^ 6 := Nat.pow_le_pow_right (by decide) hw6
    have hb : ∀ set rung B mo le lim t, bitN (nodS set rung B mo le lim t w) 8 = bc (nodS set rung B mo le lim t w) := by
      intro set rung B mo le lim t
      obtain ⟨m, h3, h4⟩ := nodS_lt set rung B mo le lim t w (by omega)
      rw [h4, bc_bits m (by omega)]
    simp only [eX10_nodsOfAll_38, eX10_nodsOfAll_39, eX10_nodsOfAll_40, eX10_nodsOfAll_43, fx0, fx1, fx2, fx3, fx4, nl_int, nl_ref, nl_none, nl_ti, rz_nil, rz_int, rz_ref, rz_long, cf1, cf2, Option.toList_some, Option.toList_none, List.cons_append, List.nil_append, sr_sr, nI_1, mnS, hb]
    exact ih (k + 1) (by omega)
theorem m_nodsOfAll {w h : Nat} {b : Int32} (hw : σ 109 4 = nI w) (hw6 : w ≤ 6) (hh : σ 109 0 = nI h) (hh6 : h ≤ 6) : Sem l (d + 3) 132 [.ref 109, .int b] σ (some (.int (trN w (nI (2 ^ w - 1)) (σ 109 3) (σ 110) (σ 111) (σ 112) b (σ 114) h))) (sr σ 114 (pre 6 (σ 123) (σ 114))) := by
  refine Sem_of rfl (Nat.le_of_ble_eq_true rfl) ?_
  show aE l (d + 2) none 10 cX10_nodsOfAll (some .int) _ 0 [some (.ref 109), some (.int b), none, none] [] σ
  simp only [eX10_nodsOfAll_0, eX10_nodsOfAll_1, eX10_nodsOfAll_2, eX10_nodsOfAll_3, fx0, fx1, fx2, fx3, fx4, nl_int, nl_ref, nl_none, nl_ti, rz_nil, rz_int, rz_ref, rz_long, cf1, cf2, Option.toList_some, Option.toList_none, List.cons_append, List.nil_append]
  have := nods_m (l := l) (d := d) (b := b) hw hw6 hh hh6 h 0 (by omega)
  rw [show trI w (nI (2 ^ w - 1)) (σ 109 3) (σ 110) (σ 111) b (σ 114) 0 = σ 114 from rfl, sr_self] at this
  exact this
end TR
