/-! hold -/
theorem and_or_l (x y z : Int32) : x &&& (y ||| z) = (x &&& y) ||| (x &&& z) := by
  apply Int32.toBitVec_inj.mp
  apply BitVec.eq_of_getLsbD_eq
  intro i hi
  simp only [Int32.toBitVec_or, Int32.toBitVec_and, BitVec.getLsbD_or, BitVec.getLsbD_and]
  cases x.toBitVec.getLsbD i <;> cases y.toBitVec.getLsbD i <;> cases z.toBitVec.getLsbD i <;> rfl
theorem and_nand (x y : Int32) : x &&& (y ^^^ (-1)) = x &&& ((x &&& y) ^^^ (-1)) := by
  apply Int32.toBitVec_inj.mp
  apply BitVec.eq_of_getLsbD_eq
  intro i hi
  have h1 : (-1 : Int32).toBitVec = BitVec.allOnes 32 := by decide
  simp only [Int32.toBitVec_and, Int32.toBitVec_xor, h1, BitVec.getLsbD_and, BitVec.getLsbD_xor, BitVec.getLsbD_allOnes, hi, decide_true]
  cases x.toBitVec.getLsbD i <;> cases y.toBitVec.getLsbD i <;> rfl
theorem ev_bit : ∀ w, w ≤ 6 → ∀ p, p < w → ¬ (nI (2 ^ w - 1) >>> (nI p &&& 31)) &&& 1 = 0 := by decide +kernel
theorem set_bit : ∀ m, m < 64 → ∀ p, p < 6 → nI m &&& ((1 : Int32) <<< (nI p &&& 31)) = if (nI m >>> (nI p &&& 31)) &&& 1 = 0 then 0 else (1 : Int32) <<< (nI p &&& 31) := by decide +kernel
theorem nodS_s (set rung B : Int32) (mo le lim t : Nat → Int32) (p : Nat) : nodS set rung B mo le lim t (p + 1) = if (set >>> (nI p &&& 31)) &&& 1 = 0 then nodS set rung B mo le lim t p else if tE set rung B (mo p) (le p) (t p) p ≤ lim p then nodS set rung B mo le lim t p else nodS set rung B mo le lim t p ||| (1 <<< (nI p &&& 31)) := by rw [nodS]
theorem nod_sub {m w : Nat} (hw : w ≤ 6) (hm : m < 2 ^ w) {rg B : Int32} {mo le lim t t' : Nat → Int32} (ht : ∀ p, p < w → ¬ (nI m >>> (nI p &&& 31)) &&& 1 = 0 → t p = t' p) : ∀ p, p ≤ w → nI m &&& nodS (nI (2 ^ w - 1)) rg B mo le lim t p = nodS (nI m) rg B mo le lim t' p := by
  have hp6 : 2 ^ w ≤ 2 ^ 6 := Nat.pow_le_pow_right (by decide) hw
  intro p
  induction p with
  | zero => intro _; show nI m &&& 0 = 0; simp
  | succ p ih =>
    intro hp
    have i := ih (by omega)
    rw [nodS_s, nodS_s, if_neg (ev_bit w hw p (by omega))]
    have sb := set_bit m (by omega) p (by omega)
    by_cases e : (nI m >>> (nI p &&& 31)) &&& 1 = 0
    · rw [if_pos e] at sb ⊢
      by_cases e2 : tE (nI (2 ^ w - 1)) rg B (mo p) (le p) (t p) p ≤ lim p
      · rw [if_pos e2, i]
      · rw [if_neg e2, and_or_l, i, sb]
        simp
    · rw [if_neg e] at sb ⊢
      have et : tE (nI (2 ^ w - 1)) rg B (mo p) (le p) (t p) p = tE (nI m) rg B (mo p) (le p) (t' p) p := by
        unfold tE
        rw [if_neg e, if_neg (ev_bit w hw p (by omega)), ht p (by omega) e]
      rw [et]
      by_cases e2 : tE (nI m) rg B (mo p) (le p) (t' p) p ≤ lim p
      · rw [if_pos e2, if_pos e2, i]
      · rw [if_neg e2, if_neg e2, and_or_l, i, sb]
theorem trI_sub {m w : Nat} (hw : w ≤ 6) {b B : Int32} {mo le f f' : Nat → Int32} (hf : ∀ p, p < w → f p = f' p) : ∀ n p, p < w → ¬ (nI m >>> (nI p &&& 31)) &&& 1 = 0 → trI w (nI (2 ^ w - 1)) B mo le b f n p = trI w (nI m) B mo le b f' n p := by
  intro n
  induction n with
  | zero => exact fun p hp _ => hf p hp
  | succ n ih =>
    intro p hp hb
    rw [trI_s, trI_s]
    unfold trW pre
    rw [if_pos hp, if_pos hp]
    show tE _ _ _ (mo p) (le p) _ _ = tE _ _ _ (mo p) (le p) _ _
    unfold tE
    rw [if_neg hb, if_neg (ev_bit w hw p hp), ih p hp hb]
def hlF (A : Nat → Int32) (set : Int32) : Nat → Bool
  | 0 => true
  | n + 1 => hlF A set n && !decide (set &&& A n = 0)
theorem hlF_s (A : Nat → Int32) (set : Int32) (n : Nat) : hlF A set (n + 1) = (hlF A set n && !decide (set &&& A n = 0)) := by rw [hlF]
theorem hlF_no {A : Nat → Int32} {set : Int32} {k : Nat} (h : set &&& A k = 0) : ∀ n, hlF A set (k + 1 + n) = false := by
  intro n
  induction n with
  | zero => rw [Nat.add_zero, hlF_s, h]; simp
  | succ n ih => rw [← Nat.add_assoc, hlF_s, ih]; rfl
theorem hlF_congr {A A' : Nat → Int32} {set : Int32} : ∀ n, (∀ k, k < n → set &&& A k = set &&& A' k) → hlF A set n = hlF A' set n := by
  intro n
  induction n with
  | zero => exact fun _ => rfl
  | succ n ih => intro h; rw [hlF_s, hlF_s, ih (fun k hk => h k (by omega)), h n (by omega)]
def fb (A : Nat → Int32) (h : Nat) : Nat → Int32
  | 0 => -1
  | n + 1 => if hlF A (nI n) h = true then (if fb A h n = -1 then nI n else if bc (fb A h n) ≤ bc (nI n) then fb A h n else nI n) else fb A h n
theorem fb_s (A : Nat → Int32) (h n : Nat) : fb A h (n + 1) = if hlF A (nI n) h = true then (if fb A h n = -1 then nI n else if bc (fb A h n) ≤ bc (nI n) then fb A h n else nI n) else fb A h n := by rw [fb]
theorem fb_or (A : Nat → Int32) (h : Nat) : ∀ n, fb A h n = -1 ∨ ∃ j, j < n ∧ fb A h n = nI j := by
  intro n
  induction n with
  | zero => exact Or.inl rfl
  | succ n ih =>
    rw [fb_s]
    have ih' : fb A h n = -1 ∨ ∃ j, j < n + 1 ∧ fb A h n = nI j := by
      rcases ih with e | ⟨j, hj, e⟩
      · exact Or.inl e
      · exact Or.inr ⟨j, by omega, e⟩
    split
    · split
      · exact Or.inr ⟨n, by omega, rfl⟩
      · split
        · exact ih'
        · exact Or.inr ⟨n, by omega, rfl⟩
    · exact ih'
theorem fb_congr {A A' : Nat → Int32} {h : Nat} : ∀ n, (∀ k, k < n → hlF A (nI k) h = hlF A' (nI k) h) → fb A h n = fb A' h n := by
  intro n
  induction n with
  | zero => exact fun _ => rfl
  | succ n ih => intro e; rw [fb_s, fb_s, ih (fun k hk => e k (by omega)), e n (by omega)]
def aw6 (w : Nat) (B : Int32) (mo le lim f : Nat → Int32) (n : Nat) : Int32 := nI (2 ^ w - 1) &&& (nodS (nI (2 ^ w - 1)) 0 B mo le lim (trI w (nI (2 ^ w - 1)) B mo le (-1) f n) w ^^^ (-1))
def aw7 (w : Nat) (set B : Int32) (mo le lim f : Nat → Int32) (n : Nat) : Int32 := nodS set 0 B mo le lim (trI w set B mo le (-1) f n) w ^^^ (-1)
theorem bl_m1 {n : Nat} (hn : n ≤ 6) : bl (-1) n = 0 := by
  unfold bl
  rw [if_neg]
  intro e
  have h0 : ¬ nI n < 0 := nI_pos (by omega)
  rw [e] at h0
  exact h0 (by decide)
theorem aw_eq {m w : Nat} (hw : w ≤ 6) (hm : m < 2 ^ w) {B : Int32} {mo le lim f f' : Nat → Int32} (hf : ∀ p, p < w → f p = f' p) (n : Nat) : nI m &&& aw6 w B mo le lim f n = nI m &&& aw7 w (nI m) B mo le lim f' n := by
  unfold aw6 aw7
  rw [← Int32.and_assoc, (set_no w hw m hm).2, and_nand (nI m) (nodS (nI (2 ^ w - 1)) 0 B mo le lim (trI w (nI (2 ^ w - 1)) B mo le (-1) f n) w), nod_sub hw hm (fun p hp hb => trI_sub hw hf n p hp hb) w (Nat.le_refl w)]
theorem su_sr_ne {σ : aW} {t c k : Nat} {f : Nat → Int32} {v : Int32} (h : c ≠ t) : su (sr σ t f) c k v = sr (su σ c k v) t f := by
  funext b
  unfold su sr
  by_cases e : b = c
  · subst e
    simp [h]
  · by_cases e2 : b = t
    · simp [e2, h]
      intro e3
      exact absurd e3.symm h
    · simp [e, e2]
section HO
variable {l : Launch} {d : Nat} {σ : aW}
theorem c_holds {h : Nat} {set : Int32} (hh : σ 9 0 = nI h) (hh6 : h ≤ 6) : Sem l (d + 1) 60 [.ref 91, .ref 9, .int set] σ (some (.int (if hlF (σ 102) set h = true then 1 else 0))) σ := by
  refine Sem_of rfl (Nat.le_of_ble_eq_true rfl) ?_
  show aE l d none 8 cX8_holds (some .boolean) _ 0 [some (.ref 91), some (.ref 9), some (.int set), none] [] σ
  simp only [eX8_holds_0, eX8_holds_1, fx0, fx1, fx2, fx3, fx4, nl_int, nl_ref, nl_none, nl_ti, rz_nil, rz_int, rz_ref, rz_long, cf1, cf2, Option.toList_some, Option.toList_none, List.cons_append, List.nil_append]
  have : ∀ n k, k + n = h → hlF (σ 102) set k = true → aE l d none 8 cX8_holds (some .boolean) (fun r' σ'' => r' = some (.int (if hlF (σ 102) set h = true then 1 else 0)) ∧ σ'' = σ) 2 [some (.ref 91), some (.ref 9), some (.int set), some (.int (nI k))] [] σ := by
    intro n
    induction n with
    | zero =>
      intro k hkn hf
      have hkn : k = h := by omega
      subst hkn
      have h1 : nI k ≤ nI k := (nile (by omega) (by omega)).mpr (Nat.le_refl k)
      simp only [eX8_holds_2, eX8_holds_3, eX8_holds_4, eX8_holds_7, eX8_holds_35, eX8_holds_36, fx0, fx1, fx2, fx3, fx4, nl_int, nl_ref, nl_none, nl_ti, rz_nil, rz_int, rz_ref, rz_long, cf1, cf2, Option.toList_some, Option.toList_none, List.cons_append, List.nil_append, hh, h1, if_true, hf, true_or, or_true, true_and, and_true, and_self, vp_nar]
    | succ n ih =>
      intro k hkn hf
      have h1 : ¬ nI h ≤ nI k := by rw [nile (by omega) (by omega)]; omega
      have h2 : ¬ (6 : Int32) ≤ nI k := by rw [show (6 : Int32) = nI 6 from rfl, nile (by omega) (by omega)]; omega
      have hin : vp_in (nI k) 6 := vin (by omega) (by omega)
      have hcl : (nI k).toNatClampNeg = k := nic (by omega)
      rw [eX8_holds_2]
      by_cases e : set &&& σ 102 k = 0
      · have := hlF_no (A := σ 102) e n
        rw [show k + 1 + n = h by omega] at this
        simp only [eX8_holds_3, eX8_holds_4, eX8_holds_7, eX8_holds_10, eX8_holds_11, eX8_holds_13, eX8_holds_16, eX8_holds_17, eX8_holds_18, eX8_holds_21, eX8_holds_22, eX8_holds_23, eX8_holds_24, eX8_holds_27, eX8_holds_28, fx0, fx1, fx2, fx3, fx4, nl_int, nl_ref, nl_none, nl_ti, rz_nil, rz_int, rz_ref, rz_long, cf1, cf2, Option.toList_some, Option.toList_none, List.cons_append, List.nil_append, hh, h1, h2, if_false, hin, hcl, true_and, e, if_true, this, vp_nar, true_or, or_true, true_and, and_true, and_self, Bool.false_eq_true]
      · simp only [eX8_holds_3, eX8_holds_4, eX8_holds_7, eX8_holds_10, eX8_holds_11, eX8_holds_13, eX8_holds_16, eX8_holds_17, eX8_holds_18, eX8_holds_21, eX8_holds_22, eX8_holds_23, eX8_holds_24, eX8_holds_27, eX8_holds_28, eX8_holds_29, eX8_holds_32, fx0, fx1, fx2, fx3, fx4, nl_int, nl_ref, nl_none, nl_ti, rz_nil, rz_int, rz_ref, rz_long, cf1, cf2, Option.toList_some, Option.toList_none, List.cons_append, List.nil_append, hh, h1, h2, if_false, hin, hcl, true_and, e, nI_1]
        refine ih (k + 1) (by omega) ?_
        rw [hlF_s, hf]
        simp [e]
  exact this h 0 (by omega) rfl
theorem few_c {Q : Option Value → aW → Prop} {w h : Nat} {l4 : Option Value} (hw : σ 9 4 = nI w) (hw6 : w ≤ 6) (hh : σ 9 0 = nI h) (hh6 : h ≤ 6)
    (hk : aE l (d + 2) none 8 cX8_fewestHolding (some .int) Q 55 [some (.ref 91), some (.ref 9), some (.ref 15), some (.int (nI h)), l4] [] (sr (sr σ 102 (pre h (aw6 w (σ 9 3) (σ 11) (σ 12) (σ 13) (σ 94)) (σ 102))) 94 (trI w (nI (2 ^ w - 1)) (σ 9 3) (σ 11) (σ 12) (-1) (σ 94) h))) : ∀ n k, k + n = h →
    aE l (d + 2) none 8 cX8_fewestHolding (some .int) Q 7 [some (.ref 91), some (.ref 9), some (.ref 15), some (.int (nI k)), l4] [] (sr (sr σ 102 (pre k (aw6 w (σ 9 3) (σ 11) (σ 12) (σ 13) (σ 94)) (σ 102))) 94 (trI w (nI (2 ^ w - 1)) (σ 9 3) (σ 11) (σ 12) (-1) (σ 94) k)) := by
  intro n
  induction n with
  | zero =>
    intro k hkn
    have hkn : k = h := by omega
    subst hkn
    have h1 : nI k ≤ nI k := (nile (by omega) (by omega)).mpr (Nat.le_refl k)
    rw [eX8_fewestHolding_7]
    simp only [eX8_fewestHolding_8, eX8_fewestHolding_9, eX8_fewestHolding_12, fx0, fx1, fx2, fx3, fx4, nl_int, nl_ref, nl_none, nl_ti, rz_nil, rz_int, rz_ref, rz_long, cf1, cf2, Option.toList_some, Option.toList_none, List.cons_append, List.nil_append, su_at, su_ne, sr_eq, sr_ne, ne_eq, Nat.reduceEqDiff, not_false_eq_true, not_true_eq_false, if_true, if_false, hh, h1, if_true]
    exact hk
  | succ n ih =>
    intro k hkn
    have h1 : ¬ nI h ≤ nI k := by rw [nile (by omega) (by omega)]; omega
    have h2 : ¬ (6 : Int32) ≤ nI k := by rw [show (6 : Int32) = nI 6 from rfl, nile (by omega) (by omega)]; omega
    have hin : vp_in (nI k) 6 := vin (by omega) (by omega)
    have hcl : (nI k).toNatClampNeg = k := nic (by omega)
    rw [eX8_fewestHolding_7]
    simp only [eX8_fewestHolding_8, eX8_fewestHolding_9, eX8_fewestHolding_12, eX8_fewestHolding_15, eX8_fewestHolding_16, eX8_fewestHolding_18, eX8_fewestHolding_21, eX8_fewestHolding_22, eX8_fewestHolding_25, eX8_fewestHolding_26, eX8_fewestHolding_27, fx0, fx1, fx2, fx3, fx4, nl_int, nl_ref, nl_none, nl_ti, rz_nil, rz_int, rz_ref, rz_long, cf1, cf2, Option.toList_some, Option.toList_none, List.cons_append, List.nil_append, su_at, su_ne, sr_eq, sr_ne, ne_eq, Nat.reduceEqDiff, not_false_eq_true, not_true_eq_false, if_true, if_false, hh, h1, h2, if_false]
    refine aC.of (c_everybody (Or.inr rfl)) ?_
    simp only [eX8_fewestHolding_30, eX8_fewestHolding_31, eX8_fewestHolding_32, eX8_fewestHolding_35, eX8_fewestHolding_36, eX8_fewestHolding_37, eX8_fewestHolding_38, fx0, fx1, fx2, fx3, fx4, nl_int, nl_ref, nl_none, nl_ti, rz_nil, rz_int, rz_ref, rz_long, cf1, cf2, Option.toList_some, Option.toList_none, List.cons_append, List.nil_append, su_at, su_ne, sr_eq, sr_ne, ne_eq, Nat.reduceEqDiff, not_false_eq_true, not_true_eq_false, if_true, if_false, hw, ev6 w hw6, i07, c00, or_true, true_and]
    refine aC.of (c_everybody (Or.inr rfl)) ?_
    simp only [eX8_fewestHolding_41, eX8_fewestHolding_42, fx0, fx1, fx2, fx3, fx4, nl_int, nl_ref, nl_none, nl_ti, rz_nil, rz_int, rz_ref, rz_long, cf1, cf2, Option.toList_some, Option.toList_none, List.cons_append, List.nil_append, su_at, su_ne, sr_eq, sr_ne, ne_eq, Nat.reduceEqDiff, not_false_eq_true, not_true_eq_false, if_true, if_false, hw, ev6 w hw6]
    refine aC.of (c_spendHour (w := w) (Or.inr rfl) rfl rfl (Or.inr (by decide)) (by simp only [su_at, su_ne, sr_eq, sr_ne, ne_eq, Nat.reduceEqDiff, not_false_eq_true, not_true_eq_false, if_true, if_false]; exact hw) hw6) ?_
    have key := ih (k + 1) (by omega)
    rw [trI_s, bl_m1 (by omega)] at key
    simp only [eX8_fewestHolding_45, eX8_fewestHolding_46, eX8_fewestHolding_47, eX8_fewestHolding_48, eX8_fewestHolding_49, eX8_fewestHolding_52, fx0, fx1, fx2, fx3, fx4, nl_int, nl_ref, nl_none, nl_ti, rz_nil, rz_int, rz_ref, rz_long, cf1, cf2, Option.toList_some, Option.toList_none, List.cons_append, List.nil_append, su_at, su_ne, sr_eq, sr_ne, ne_eq, Nat.reduceEqDiff, not_false_eq_true, not_true_eq_false, if_true, if_false, hin, hcl, true_and, sr_sr, nI_1, su_sr_ne, su_sr]
    rw [show upd (pre k (aw6 w (σ 9 3) (σ 11) (σ 12) (σ 13) (σ 94)) (σ 102)) k (nI (2 ^ w - 1) &&& (nS (sr (sr σ 102 (pre k (aw6 w (σ 9 3) (σ 11) (σ 12) (σ 13) (σ 94)) (σ 102))) 94 (trI w (nI (2 ^ w - 1)) (σ 9 3) (σ 11) (σ 12) (-1) (σ 94) k)) 9 94 (nI (2 ^ w - 1)) 0 w ^^^ (-1))) = pre (k + 1) (aw6 w (σ 9 3) (σ 11) (σ 12) (σ 13) (σ 94)) (σ 102) from pre_up k _ _]
    exact key
theorem few_c2 {Q : Option Value → aW → Prop} {w h : Nat} {A : Nat → Int32} (hw : σ 9 4 = nI w) (hw6 : w ≤ 6) (hh : σ 9 0 = nI h) (hh6 : h ≤ 6) (hA : ∀ k, hlF (σ 102) k h = hlF A k h)
    (hk : Q (some (.int (fb A h (2 ^ w)))) σ) : ∀ n k, k + n = 2 ^ w →
    aE l (d + 2) none 8 cX8_fewestHolding (some .int) Q 60 [some (.ref 91), some (.ref 9), some (.ref 15), some (.int (fb A h k)), some (.int (nI k))] [] σ := by
  have hp : 2 ^ w ≤ 2 ^ 6 := Nat.pow_le_pow_right (by decide) hw6
  have hp1 : 1 ≤ 2 ^ w := Nat.one_le_two_pow
  intro n
  induction n with
  | zero =>
    intro k hkn
    have hkn : k = 2 ^ w := by omega
    subst hkn
    have h1 : nI (2 ^ w - 1) < nI (2 ^ w) := (nilt (by omega) (by omega)).mpr (by omega)
    rw [eX8_fewestHolding_60]
    simp only [eX8_fewestHolding_62, eX8_fewestHolding_63, fx0, fx1, fx2, fx3, fx4, nl_int, nl_ref, nl_none, nl_ti, rz_nil, rz_int, rz_ref, rz_long, cf1, cf2, Option.toList_some, Option.toList_none, List.cons_append, List.nil_append]
    refine aC.of (c_everybody (Or.inr rfl)) ?_
    rw [hw, ev6 w hw6]
    have h1' : ¬ nI (2 ^ w) ≤ nI (2 ^ w - 1) := Int32.not_le.mpr h1
    simp only [eX8_fewestHolding_66, eX8_fewestHolding_115, eX8_fewestHolding_116, fx0, fx1, fx2, fx3, fx4, nl_int, nl_ref, nl_none, nl_ti, rz_nil, rz_int, rz_ref, rz_long, cf1, cf2, Option.toList_some, Option.toList_none, List.cons_append, List.nil_append, h1, h1', if_true, if_false]
    exact hk
  | succ n ih =>
    intro k hkn
    have h1 : ¬ nI (2 ^ w - 1) < nI k := by rw [nilt (by omega) (by omega)]; omega
    have h1' : nI k ≤ nI (2 ^ w - 1) := Int32.not_lt.mp h1
    have h2 : ¬ (64 : Int32) ≤ nI k := by rw [show (64 : Int32) = nI 64 from rfl, nile (by omega) (by omega)]; omega
    rw [eX8_fewestHolding_60]
    simp only [eX8_fewestHolding_62, eX8_fewestHolding_63, fx0, fx1, fx2, fx3, fx4, nl_int, nl_ref, nl_none, nl_ti, rz_nil, rz_int, rz_ref, rz_long, cf1, cf2, Option.toList_some, Option.toList_none, List.cons_append, List.nil_append]
    refine aC.of (c_everybody (Or.inr rfl)) ?_
    rw [hw, ev6 w hw6]
    simp only [eX8_fewestHolding_66, eX8_fewestHolding_69, eX8_fewestHolding_71, eX8_fewestHolding_73, eX8_fewestHolding_76, eX8_fewestHolding_77, eX8_fewestHolding_78, eX8_fewestHolding_80, fx0, fx1, fx2, fx3, fx4, nl_int, nl_ref, nl_none, nl_ti, rz_nil, rz_int, rz_ref, rz_long, cf1, cf2, Option.toList_some, Option.toList_none, List.cons_append, List.nil_append, h1, h1', h2, if_true, if_false]
    refine aC.of (c_holds hh hh6) ?_
    rw [hA]
    have key := ih (k + 1) (by omega)
    rw [fb_s] at key
    by_cases e : hlF A (nI k) h = true
    · rw [if_pos e] at key
      simp only [eX8_fewestHolding_83, eX8_fewestHolding_86, eX8_fewestHolding_89, eX8_fewestHolding_90, fx0, fx1, fx2, fx3, fx4, nl_int, nl_ref, nl_none, nl_ti, rz_nil, rz_int, rz_ref, rz_long, cf1, cf2, Option.toList_some, Option.toList_none, List.cons_append, List.nil_append, e, if_true, show ¬ (1 : Int32) = 0 by decide, if_false]
      by_cases e2 : fb A h k = -1
      · rw [if_pos e2] at key
        simp only [eX8_fewestHolding_91, eX8_fewestHolding_106, eX8_fewestHolding_108, eX8_fewestHolding_109, eX8_fewestHolding_112, fx0, fx1, fx2, fx3, fx4, nl_int, nl_ref, nl_none, nl_ti, rz_nil, rz_int, rz_ref, rz_long, cf1, cf2, Option.toList_some, Option.toList_none, List.cons_append, List.nil_append, e2, if_true, nI_1]
        exact key
      · rw [if_neg e2] at key
        simp only [eX8_fewestHolding_91, eX8_fewestHolding_94, eX8_fewestHolding_96, fx0, fx1, fx2, fx3, fx4, nl_int, nl_ref, nl_none, nl_ti, rz_nil, rz_int, rz_ref, rz_long, cf1, cf2, Option.toList_some, Option.toList_none, List.cons_append, List.nil_append, e2, if_false]
        refine aC.of c_bitCount ?_
        simp only [eX8_fewestHolding_99, eX8_fewestHolding_100, fx0, fx1, fx2, fx3, fx4, nl_int, nl_ref, nl_none, nl_ti, rz_nil, rz_int, rz_ref, rz_long, cf1, cf2, Option.toList_some, Option.toList_none, List.cons_append, List.nil_append]
        refine aC.of c_bitCount ?_
        by_cases e3 : bc (fb A h k) ≤ bc (nI k)
        · rw [if_pos e3] at key
          simp only [eX8_fewestHolding_103, eX8_fewestHolding_106, eX8_fewestHolding_108, eX8_fewestHolding_109, eX8_fewestHolding_112, fx0, fx1, fx2, fx3, fx4, nl_int, nl_ref, nl_none, nl_ti, rz_nil, rz_int, rz_ref, rz_long, cf1, cf2, Option.toList_some, Option.toList_none, List.cons_append, List.nil_append, e3, if_true, nI_1]
          exact key
        · rw [if_neg e3] at key
          simp only [eX8_fewestHolding_103, eX8_fewestHolding_106, eX8_fewestHolding_108, eX8_fewestHolding_109, eX8_fewestHolding_112, fx0, fx1, fx2, fx3, fx4, nl_int, nl_ref, nl_none, nl_ti, rz_nil, rz_int, rz_ref, rz_long, cf1, cf2, Option.toList_some, Option.toList_none, List.cons_append, List.nil_append, e3, if_false, nI_1]
          exact key
    · rw [if_neg e] at key
      simp only [eX8_fewestHolding_83, eX8_fewestHolding_86, eX8_fewestHolding_109, eX8_fewestHolding_112, fx0, fx1, fx2, fx3, fx4, nl_int, nl_ref, nl_none, nl_ti, rz_nil, rz_int, rz_ref, rz_long, cf1, cf2, Option.toList_some, Option.toList_none, List.cons_append, List.nil_append, e, if_true, if_false, nI_1]
      exact key
theorem m_holds {w h : Nat} {set : Int32} (hw : σ 109 4 = nI w) (hw6 : w ≤ 6) (hh : σ 109 0 = nI h) (hh6 : h ≤ 6) (hs : ∀ q, q < 6 → σ 123 q = σ 114 q) : Sem l (d + 3) 136 [.ref 109, .int set] σ (some (.int (if hlF (aw7 w set (σ 109 3) (σ 110) (σ 111) (σ 112) (σ 114)) set h = true then 1 else 0))) σ := by
  refine Sem_of rfl (Nat.le_of_ble_eq_true rfl) ?_
  show aE l (d + 2) none 10 cX10_holds (some .boolean) _ 0 [some (.ref 109), some (.int set), none, none] [] σ
  simp only [eX10_holds_0, eX10_holds_1, eX10_holds_2, eX10_holds_3, fx0, fx1, fx2, fx3, fx4, nl_int, nl_ref, nl_none, nl_ti, rz_nil, rz_int, rz_ref, rz_long, cf1, cf2, Option.toList_some, Option.toList_none, List.cons_append, List.nil_append]
  have : ∀ n k, k + n = h → aE l (d + 2) none 10 cX10_holds (some .boolean) (fun r' σ'' => r' = some (.int (if hlF (aw7 w set (σ 109 3) (σ 110) (σ 111) (σ 112) (σ 114)) set h = true then 1 else 0)) ∧ σ'' = σ) 4 [some (.ref 109), some (.int set), some (.int (if hlF (aw7 w set (σ 109 3) (σ 110) (σ 111) (σ 112) (σ 114)) set k = true then 1 else 0)), some (.int (nI k))] [] (sr σ 114 (trI w set (σ 109 3) (σ 110) (σ 111) (-1) (σ 114) k)) := by
    intro n
    induction n with
    | zero =>
      intro k hkn
      have hkn : k = h := by omega
      subst hkn
      have h1 : nI k ≤ nI k := (nile (by omega) (by omega)).mpr (Nat.le_refl k)
      simp only [eX10_holds_4, eX10_holds_5, eX10_holds_6, eX10_holds_9, eX10_holds_41, eX10_holds_42, fx0, fx1, fx2, fx3, fx4, nl_int, nl_ref, nl_none, nl_ti, rz_nil, rz_int, rz_ref, rz_long, cf1, cf2, Option.toList_some, Option.toList_none, List.cons_append, List.nil_append, su_at, su_ne, sr_eq, sr_ne, ne_eq, Nat.reduceEqDiff, not_false_eq_true, not_true_eq_false, if_true, if_false, hh, h1, if_true]
      refine aC.of m_putBack ?_
      rw [sr_sr, sr_eq, sr_ne (show (123 : Nat) ≠ 114 by decide), show pre 6 (σ 123) (trI w set (σ 109 3) (σ 110) (σ 111) (-1) (σ 114) k) = σ 114 from by
        funext q
        unfold pre
        by_cases e : q < 6
        · rw [if_pos e, hs q e]
        · rw [if_neg e, trI_hi k q (by omega)], sr_self]
      simp only [eX10_holds_45, eX10_holds_46, fx0, fx1, fx2, fx3, fx4, nl_int, nl_ref, nl_none, nl_ti, rz_nil, rz_int, rz_ref, rz_long, cf1, cf2, Option.toList_some, Option.toList_none, List.cons_append, List.nil_append, vp_nar, true_or, or_true, true_and, and_true, and_self]
      by_cases e : hlF (aw7 w set (σ 109 3) (σ 110) (σ 111) (σ 112) (σ 114)) set k = true
      · simp only [e, if_true, true_or, or_true, true_and, and_true, and_self]
      · simp only [e, if_false, true_or, or_true, true_and, and_true, and_self, Bool.false_eq_true]
    | succ n ih =>
      intro k hkn
      have h1 : ¬ nI h ≤ nI k := by rw [nile (by omega) (by omega)]; omega
      have key := ih (k + 1) (by omega)
      rw [trI_s, bl_m1 (by omega), hlF_s] at key
      rw [eX10_holds_4]
      simp only [eX10_holds_5, eX10_holds_6, eX10_holds_9, eX10_holds_12, eX10_holds_13, eX10_holds_14, eX10_holds_15, eX10_holds_16, fx0, fx1, fx2, fx3, fx4, nl_int, nl_ref, nl_none, nl_ti, rz_nil, rz_int, rz_ref, rz_long, cf1, cf2, Option.toList_some, Option.toList_none, List.cons_append, List.nil_append, su_at, su_ne, sr_eq, sr_ne, ne_eq, Nat.reduceEqDiff, not_false_eq_true, not_true_eq_false, if_true, if_false, hh, h1, if_false]
      refine aC.of (m_tire (w := w) (by simp only [su_at, su_ne, sr_eq, sr_ne, ne_eq, Nat.reduceEqDiff, not_false_eq_true, not_true_eq_false, if_true, if_false]; exact hw) hw6) ?_
      rw [sr_sr]
      simp only [eX10_holds_19, eX10_holds_20, eX10_holds_21, fx0, fx1, fx2, fx3, fx4, nl_int, nl_ref, nl_none, nl_ti, rz_nil, rz_int, rz_ref, rz_long, cf1, cf2, Option.toList_some, Option.toList_none, List.cons_append, List.nil_append]
      rw [show mnS (sr σ 114 (trI w set (σ 109 3) (σ 110) (σ 111) (-1) (σ 114) k)) set 0 w ^^^ (-1) = aw7 w set (σ 109 3) (σ 110) (σ 111) (σ 112) (σ 114) k from rfl]
      by_cases e : set &&& aw7 w set (σ 109 3) (σ 110) (σ 111) (σ 112) (σ 114) k = 0
      · rw [e] at key
        simp only [decide_true, Bool.not_true, Bool.and_false, Bool.false_eq_true, if_false] at key
        simp only [eX10_holds_22, eX10_holds_33, eX10_holds_34, eX10_holds_35, eX10_holds_38, fx0, fx1, fx2, fx3, fx4, nl_int, nl_ref, nl_none, nl_ti, rz_nil, rz_int, rz_ref, rz_long, cf1, cf2, Option.toList_some, Option.toList_none, List.cons_append, List.nil_append, e, if_true, nI_1]
        exact key
      · simp only [e, decide_false, Bool.not_false, Bool.and_true] at key
        simp only [eX10_holds_22, eX10_holds_25, fx0, fx1, fx2, fx3, fx4, nl_int, nl_ref, nl_none, nl_ti, rz_nil, rz_int, rz_ref, rz_long, cf1, cf2, Option.toList_some, Option.toList_none, List.cons_append, List.nil_append, e, if_false]
        by_cases e2 : hlF (aw7 w set (σ 109 3) (σ 110) (σ 111) (σ 112) (σ 114)) set k = true
        · simp only [e2, if_true] at key
          simp only [eX10_holds_26, eX10_holds_29, eX10_holds_30, eX10_holds_33, eX10_holds_34, eX10_holds_35, eX10_holds_38, fx0, fx1, fx2, fx3, fx4, nl_int, nl_ref, nl_none, nl_ti, rz_nil, rz_int, rz_ref, rz_long, cf1, cf2, Option.toList_some, Option.toList_none, List.cons_append, List.nil_append, e2, if_true, show ¬ (1 : Int32) = 0 by decide, if_false, nI_1]
          exact key
        · simp only [e2, if_false] at key
          simp only [eX10_holds_26, eX10_holds_29, eX10_holds_30, eX10_holds_33, eX10_holds_34, eX10_holds_35, eX10_holds_38, fx0, fx1, fx2, fx3, fx4, nl_int, nl_ref, nl_none, nl_ti, rz_nil, rz_int, rz_ref, rz_long, cf1, cf2, Option.toList_some, Option.toList_none, List.cons_append, List.nil_append, e2, if_true, if_false, nI_1]
          exact key
  have := this h 0 (by omega)
  rw [show trI w set (σ 109 3) (σ 110) (σ 111) (-1) (σ 114) 0 = σ 114 from rfl, sr_self] at this
  exact this
theorem hold_m {Q : Option Value → aW → Prop} {w h : Nat} {A : Nat → Int32} (hw : σ 109 4 = nI w) (hw6 : w ≤ 6) (hh : σ 109 0 = nI h) (hh6 : h ≤ 6) (hs : ∀ q, q < 6 → σ 123 q = σ 114 q) (hA : ∀ k, k < 2 ^ w → hlF (aw7 w (nI k) (σ 109 3) (σ 110) (σ 111) (σ 112) (σ 114)) (nI k) h = hlF A (nI k) h)
    (hk : Q (some (.int (fb A h (2 ^ w)))) σ) : ∀ n k t, k + n = 2 ^ w →
    aE l (d + 4) none 10 cX10_hold (some .int) Q 18 [some (.ref 109), some (.int (fb A h k)), some (.int (nI k)), ti t] [] σ := by
  have hp : 2 ^ w ≤ 2 ^ 6 := Nat.pow_le_pow_right (by decide) hw6
  have hp1 : 1 ≤ 2 ^ w := Nat.one_le_two_pow
  have sh : ∀ w, w ≤ 6 → (1 : Int32) <<< (nI w &&& 31) = nI (2 ^ w) := by decide +kernel
  intro n
  induction n with
  | zero =>
    intro k t hkn
    have hkn : k = 2 ^ w := by omega
    subst hkn
    have h1 : nI (2 ^ w) ≤ nI (2 ^ w) := (nile (by omega) (by omega)).mpr (Nat.le_refl _)
    simp only [eX10_hold_18, eX10_hold_19, eX10_hold_20, eX10_hold_21, eX10_hold_24, eX10_hold_25, eX10_hold_73, eX10_hold_74, fx0, fx1, fx2, fx3, fx4, nl_int, nl_ref, nl_none, nl_ti, rz_nil, rz_int, rz_ref, rz_long, cf1, cf2, Option.toList_some, Option.toList_none, List.cons_append, List.nil_append, hw, sh w hw6, h1, if_true]
    exact hk
  | succ n ih =>
    intro k t hkn
    have h1 : ¬ nI (2 ^ w) ≤ nI k := by rw [nile (by omega) (by omega)]; omega
    rw [eX10_hold_18]
    simp only [eX10_hold_19, eX10_hold_20, eX10_hold_21, eX10_hold_24, eX10_hold_25, eX10_hold_28, fx0, fx1, fx2, fx3, fx4, nl_int, nl_ref, nl_none, nl_ti, rz_nil, rz_int, rz_ref, rz_long, cf1, cf2, Option.toList_some, Option.toList_none, List.cons_append, List.nil_append, hw, sh w hw6, h1, if_false]
    have hne1 : ¬ nI k = -1 := fun e => by
      have h0 : ¬ nI k < 0 := nI_pos (by omega)
      rw [e] at h0
      exact h0 (by decide)
    -- once better is known
    have hyes : fb A h (k + 1) = (if hlF A (nI k) h = true then nI k else fb A h k) → aE l (d + 4) none 10 cX10_hold (some .int) Q 48 [some (.ref 109), some (.int (fb A h k)), some (.int (nI k)), ti t] [.int 1] σ := by
      intro hf
      have key := ih (k + 1) (some 1) (by omega)
      rw [hf] at key
      simp only [eX10_hold_48, eX10_hold_49, eX10_hold_50, eX10_hold_53, eX10_hold_54, eX10_hold_55, fx0, fx1, fx2, fx3, fx4, nl_int, nl_ref, nl_none, nl_ti, rz_nil, rz_int, rz_ref, rz_long, cf1, cf2, Option.toList_some, Option.toList_none, List.cons_append, List.nil_append, show ¬ (1 : Int32) = 0 by decide, if_false]
      refine aC.of (m_holds hw hw6 hh hh6 hs) ?_
      rw [hA k (by omega)]
      by_cases e : hlF A (nI k) h = true
      · rw [if_pos e] at key
        simp only [eX10_hold_58, eX10_hold_61, eX10_hold_62, eX10_hold_65, eX10_hold_66, eX10_hold_67, eX10_hold_70, fx0, fx1, fx2, fx3, fx4, nl_int, nl_ref, nl_none, nl_ti, rz_nil, rz_int, rz_ref, rz_long, cf1, cf2, Option.toList_some, Option.toList_none, List.cons_append, List.nil_append, e, if_true, show ¬ (1 : Int32) = 0 by decide, if_false, nI_1]
        exact key
      · rw [if_neg e] at key
        simp only [eX10_hold_58, eX10_hold_61, eX10_hold_62, eX10_hold_65, eX10_hold_66, eX10_hold_67, eX10_hold_70, fx0, fx1, fx2, fx3, fx4, nl_int, nl_ref, nl_none, nl_ti, rz_nil, rz_int, rz_ref, rz_long, cf1, cf2, Option.toList_some, Option.toList_none, List.cons_append, List.nil_append, e, if_true, if_false, nI_1]
        exact key
    rcases fb_or A h k with e | ⟨j, hj, e⟩
    · have h2 : fb A h k < 0 := by rw [e]; decide
      simp only [eX10_hold_29, eX10_hold_43, eX10_hold_44, fx0, fx1, fx2, fx3, fx4, nl_int, nl_ref, nl_none, nl_ti, rz_nil, rz_int, rz_ref, rz_long, cf1, cf2, Option.toList_some, Option.toList_none, List.cons_append, List.nil_append, h2, if_true]
      refine hyes ?_
      rw [fb_s, e, if_pos rfl]
    · have h2 : ¬ fb A h k < 0 := by rw [e]; exact nI_pos (by omega)
      have h3 : ¬ fb A h k = -1 := fun e3 => h2 (by rw [e3]; decide)
      simp only [eX10_hold_29, eX10_hold_32, eX10_hold_33, fx0, fx1, fx2, fx3, fx4, nl_int, nl_ref, nl_none, nl_ti, rz_nil, rz_int, rz_ref, rz_long, cf1, cf2, Option.toList_some, Option.toList_none, List.cons_append, List.nil_append, h2, if_false]
      refine aC.of m_bits ?_
      simp only [eX10_hold_36, eX10_hold_37, fx0, fx1, fx2, fx3, fx4, nl_int, nl_ref, nl_none, nl_ti, rz_nil, rz_int, rz_ref, rz_long, cf1, cf2, Option.toList_some, Option.toList_none, List.cons_append, List.nil_append]
      refine aC.of m_bits ?_
      rw [show bitN (fb A h k) 8 = bc (fb A h k) from by rw [e, bc_bits j (by omega)], ← bc_bits k (by omega)]
      by_cases e4 : bc (fb A h k) ≤ bc (nI k)
      · have key := ih (k + 1) (some 0) (by omega)
        rw [fb_s, if_neg h3, if_pos e4, ite_self] at key
        simp only [eX10_hold_40, eX10_hold_47, eX10_hold_48, eX10_hold_49, eX10_hold_50, eX10_hold_65, eX10_hold_66, eX10_hold_67, eX10_hold_70, fx0, fx1, fx2, fx3, fx4, nl_int, nl_ref, nl_none, nl_ti, rz_nil, rz_int, rz_ref, rz_long, cf1, cf2, Option.toList_some, Option.toList_none, List.cons_append, List.nil_append, e4, if_true, nI_1]
        exact key
      · simp only [eX10_hold_40, eX10_hold_43, eX10_hold_44, fx0, fx1, fx2, fx3, fx4, nl_int, nl_ref, nl_none, nl_ti, rz_nil, rz_int, rz_ref, rz_long, cf1, cf2, Option.toList_some, Option.toList_none, List.cons_append, List.nil_append, e4, if_false]
        refine hyes ?_
        rw [fb_s, if_neg h3, if_neg e4]
theorem op_hold (hI : Inv σ) : Pair l (d + 30) 76 137 [] σ := by
  have hI0 := hI
  obtain ⟨h, w, s, hK, ⟨hS, hR⟩, hH, hIm, hD, hE, hB, hT⟩ := hI
  have hw6 : w ≤ 6 := hK.1.2.2
  have k1 : σ 9 4 = nI w := hK.1.1
  have k2 : σ 109 4 = nI w := hK.1.2.1
  have hp : 2 ^ w ≤ 2 ^ 6 := Nat.pow_le_pow_right (by decide) hw6
  have hp1 : 1 ≤ 2 ^ w := Nat.one_le_two_pow
  obtain ⟨hh6, k5, k6, -⟩ := hK.2.2.1
  refine aC_of rfl (Nat.le_of_ble_eq_true rfl) ?_
  show aE l (d + 29) none 9 cX9_hold (some .int) _ 0 [some (.ref 0)] [] σ
  simp only [eX9_hold_0, eX9_hold_1, eX9_hold_4, fx0, fx1, fx2, fx3, fx4, nl_int, nl_ref, nl_none, nl_ti, rz_nil, rz_int, rz_ref, rz_long, cf1, cf2, Option.toList_some, Option.toList_none, List.cons_append, List.nil_append]
  refine aC.of (c_stands (Or.inr rfl)) ?_
  rw [k5]
  by_cases h0 : h = 0
  · subst h0
    simp only [eX9_hold_7, eX9_hold_10, eX9_hold_12, fx0, fx1, fx2, fx3, fx4, nl_int, nl_ref, nl_none, nl_ti, rz_nil, rz_int, rz_ref, rz_long, cf1, cf2, Option.toList_some, Option.toList_none, List.cons_append, List.nil_append, show nI 0 ≤ 0 by decide, if_true]
    refine aC_of rfl (Nat.le_of_ble_eq_true rfl) ?_
    show aE l (d + 29) none 10 cX10_hold (some .int) _ 0 [some (.ref 109), none, none, none] [] σ
    simp only [eX10_hold_0, eX10_hold_1, eX10_hold_4, eX10_hold_7, eX10_hold_9, fx0, fx1, fx2, fx3, fx4, nl_int, nl_ref, nl_none, nl_ti, rz_nil, rz_int, rz_ref, rz_long, cf1, cf2, Option.toList_some, Option.toList_none, List.cons_append, List.nil_append, k6, show nI 0 = 0 from rfl, if_true]
    exact ⟨⟨_, rfl, rfl⟩, hI0⟩
  have hnle : ¬ nI h ≤ 0 := nI_nle (by omega) (by omega)
  have hne0 : ¬ nI h = 0 := nI_ne0 (by omega) (by omega)
  simp only [eX9_hold_7, eX9_hold_10, eX9_hold_12, eX9_hold_13, eX9_hold_14, eX9_hold_17, eX9_hold_18, eX9_hold_21, eX9_hold_22, eX9_hold_25, fx0, fx1, fx2, fx3, fx4, nl_int, nl_ref, nl_none, nl_ti, rz_nil, rz_int, rz_ref, rz_long, cf1, cf2, Option.toList_some, Option.toList_none, List.cons_append, List.nil_append, hnle, if_false, show ¬ (1 : Int32) = 0 by decide]
  refine aC_of rfl (Nat.le_of_ble_eq_true rfl) ?_
  show aE l (d + 28) none 8 cX8_fewestHolding (some .int) _ 0 [some (.ref 91), some (.ref 9), some (.ref 15), none, none] [] σ
  simp only [eX8_fewestHolding_0, eX8_fewestHolding_1, eX8_fewestHolding_2, fx0, fx1, fx2, fx3, fx4, nl_int, nl_ref, nl_none, nl_ti, rz_nil, rz_int, rz_ref, rz_long, cf1, cf2, Option.toList_some, Option.toList_none, List.cons_append, List.nil_append]
  refine aC.of c_layRow ?_
  simp only [eX8_fewestHolding_5, eX8_fewestHolding_6, fx0, fx1, fx2, fx3, fx4, nl_int, nl_ref, nl_none, nl_ti, rz_nil, rz_int, rz_ref, rz_long, cf1, cf2, Option.toList_some, Option.toList_none, List.cons_append, List.nil_append]
  generalize hτ : sr σ 94 (pre 6 (σ 16) (σ 94)) = τ
  have t : ∀ c, c ≠ 94 → τ c = σ c := fun c hc => by rw [← hτ, sr_ne hc]
  have t94 : ∀ p, p < w → τ 94 p = σ 114 p := fun p hp => by
    rw [← hτ, sr_eq, ← (show σ 16 p = σ 114 p from hS.1 p hp)]
    exact if_pos (by omega)
  have t9 := t 9 (by decide)
  have e4 : τ 9 4 = nI w := by rw [t9]; exact k1
  have e0 : τ 9 0 = nI h := by rw [t9]; exact k5
  have fc := few_c (l := l) (d := d + 26) (σ := τ) (w := w) (h := h) (l4 := none) (Q := fun r σ' => aE l (d + 29) none 9 cX9_hold (some .int) (fun r σ1 => aC l (d + 30) 137 [.ref 109] σ1 (fun r2 σ2 => (∃ v : Int32, r = some (.int v) ∧ r2 = some (.int v)) ∧ Inv σ2)) 28 [some (.ref 0)] (r.toList ++ []) σ') e4 hw6 e0 hh6
  have := fc ?_ h 0 (by omega)
  · rw [pre_0, sr_self, show trI w (nI (2 ^ w - 1)) (τ 9 3) (τ 11) (τ 12) (-1) (τ 94) 0 = τ 94 from rfl, sr_self] at this
    exact this
  · clear fc
    simp only [eX8_fewestHolding_55, eX8_fewestHolding_56, eX8_fewestHolding_57, eX8_fewestHolding_58, fx0, fx1, fx2, fx3, fx4, nl_int, nl_ref, nl_none, nl_ti, rz_nil, rz_int, rz_ref, rz_long, cf1, cf2, Option.toList_some, Option.toList_none, List.cons_append, List.nil_append]
    generalize hυ : sr (sr τ 102 (pre h (aw6 w (τ 9 3) (τ 11) (τ 12) (τ 13) (τ 94)) (τ 102))) 94 (trI w (nI (2 ^ w - 1)) (τ 9 3) (τ 11) (τ 12) (-1) (τ 94) h) = υ
    have u : ∀ c, c ≠ 94 → c ≠ 102 → υ c = σ c := fun c c1 c2 => by rw [← hυ, sr_ne c1, sr_ne c2, t c c1]
    have u9 := u 9 (by decide) (by decide)
    have f4 : υ 9 4 = nI w := by rw [u9]; exact k1
    have f0 : υ 9 0 = nI h := by rw [u9]; exact k5
    have hA1 : ∀ k, hlF (υ 102) k h = hlF (aw6 w (σ 9 3) (σ 11) (σ 12) (σ 13) (τ 94)) k h := by
      intro k
      refine hlF_congr h (fun i hi => ?_)
      rw [← hυ, sr_ne (show (102 : Nat) ≠ 94 by decide), sr_eq, t9, t 11 (by decide), t 12 (by decide), t 13 (by decide)]
      unfold pre
      rw [if_pos hi]
    refine few_c2 (d := d + 26) (A := aw6 w (σ 9 3) (σ 11) (σ 12) (σ 13) (τ 94)) f4 hw6 f0 hh6 hA1 ?_ (2 ^ w) 0 (by omega)
    simp only [eX9_hold_28, fx0, fx1, fx2, fx3, fx4, nl_int, nl_ref, nl_none, nl_ti, rz_nil, rz_int, rz_ref, rz_long, cf1, cf2, Option.toList_some, Option.toList_none, List.cons_append, List.nil_append]
    refine aC_of rfl (Nat.le_of_ble_eq_true rfl) ?_
    show aE l (d + 29) none 10 cX10_hold (some .int) _ 0 [some (.ref 109), none, none, none] [] υ
    have u109 := u 109 (by decide) (by decide)
    simp only [eX10_hold_0, eX10_hold_1, eX10_hold_4, eX10_hold_7, eX10_hold_9, eX10_hold_10, eX10_hold_11, fx0, fx1, fx2, fx3, fx4, nl_int, nl_ref, nl_none, nl_ti, rz_nil, rz_int, rz_ref, rz_long, cf1, cf2, Option.toList_some, Option.toList_none, List.cons_append, List.nil_append, u109, k6, hne0, if_false]
    refine aC.of m_save ?_
    simp only [eX10_hold_14, eX10_hold_15, eX10_hold_16, eX10_hold_17, fx0, fx1, fx2, fx3, fx4, nl_int, nl_ref, nl_none, nl_ti, rz_nil, rz_int, rz_ref, rz_long, cf1, cf2, Option.toList_some, Option.toList_none, List.cons_append, List.nil_append]
    generalize hω : sr υ 123 (pre 6 (υ 114) (υ 123)) = ω
    have o : ∀ c, c ≠ 94 → c ≠ 102 → c ≠ 123 → ω c = σ c := fun c c1 c2 c3 => by rw [← hω, sr_ne c3, u c c1 c2]
    have o109 := o 109 (by decide) (by decide) (by decide)
    have os : ∀ q, q < 6 → ω 123 q = ω 114 q := by
      intro q hq
      rw [o 114 (by decide) (by decide) (by decide), ← hω, sr_eq, u 114 (by decide) (by decide)]
      exact if_pos hq
    have hfb1 : fb (aw6 w (σ 9 3) (σ 11) (σ 12) (σ 13) (τ 94)) h 1 = -1 := by
      rw [fb_s]
      obtain ⟨h', rfl⟩ : ∃ h', h = 0 + 1 + h' := ⟨h - 1, by omega⟩
      rw [hlF_no (show nI 0 &&& aw6 w (σ 9 3) (σ 11) (σ 12) (σ 13) (τ 94) 0 = 0 from Int32.zero_and) h']
      rfl
    have hm := hold_m (l := l) (d := d + 25) (σ := ω) (w := w) (h := h) (A := aw6 w (σ 9 3) (σ 11) (σ 12) (σ 13) (τ 94)) (Q := fun r2 σ2 => (∃ v : Int32, some (Value.int (fb (aw6 w (σ 9 3) (σ 11) (σ 12) (σ 13) (τ 94)) h (2 ^ w))) = some (.int v) ∧ r2 = some (.int v)) ∧ Inv σ2) (by rw [o109]; exact k2) hw6 (by rw [o109]; exact k6) hh6 os ?_ ?_ (2 ^ w - 1) 1 none (by omega)
    · rw [hfb1] at hm
      exact hm
    · intro k hk
      rw [o109, o 110 (by decide) (by decide) (by decide), o 111 (by decide) (by decide) (by decide), o 112 (by decide) (by decide) (by decide), o 114 (by decide) (by decide) (by decide)]
      refine hlF_congr h (fun i hi => ?_)
      rw [aw_eq hw6 hk (f' := σ 114) t94 i]
      unfold aw7
      congr 2
      exact nodS_congr hK.2.2.2.1.2.2.1.symm w (fun q hq => ⟨((hK.2.2.2.2.1 q hq).1).symm, ((hK.2.2.2.2.1 q hq).2.1).symm, ((hK.2.2.2.2.1 q hq).2.2.1).symm, trI_congr hK.2.2.2.1.2.2.1.symm (fun q hq => ⟨((hK.2.2.2.2.1 q hq).1).symm, ((hK.2.2.2.2.1 q hq).2.1).symm⟩) (fun _ _ => rfl) i q hq⟩)
    · refine ⟨⟨_, rfl, rfl⟩, hI0.free (fun c c1 c2 => o c (by omega) (by omega) (by omega)) (fun k hk => by rw [o109])⟩
end HO
