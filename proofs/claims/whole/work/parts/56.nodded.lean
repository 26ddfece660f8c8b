/-! nodded -/
def rs (R : Nat → Bool) (i : Int32) : Nat → Nat → Nat → Nat ⊕ Nat
  | 0, _, c => .inr c
  | n + 1, k, c => if R k = true then (if nI c = i then .inl k else rs R i n (k + 1) (c + 1)) else rs R i n (k + 1) c
theorem rs_s (R : Nat → Bool) (i : Int32) (n k c : Nat) : rs R i (n + 1) k c = if R k = true then (if nI c = i then .inl k else rs R i n (k + 1) (c + 1)) else rs R i n (k + 1) c := by rw [rs]
def zs (R : Nat → Nat → Bool) (i : Int32) (N : Nat) : Nat → Nat → Nat → Nat ⊕ Nat
  | 0, _, c => .inr c
  | n + 1, z, c => match rs (R z) i N 0 c with
    | .inl k => .inl k
    | .inr c' => zs R i N n (z + 1) c'
theorem zs_s (R : Nat → Nat → Bool) (i : Int32) (N n z c : Nat) : zs R i N (n + 1) z c = match rs (R z) i N 0 c with
    | .inl k => .inl k
    | .inr c' => zs R i N n (z + 1) c' := by rw [zs]
theorem rs_none {R : Nat → Bool} {i : Int32} : ∀ b k c, (∀ k', k ≤ k' → k' < k + b → R k' = false) → rs R i b k c = .inr c := by
  intro b
  induction b with
  | zero => exact fun _ _ _ => rfl
  | succ b ih =>
    intro k c h
    rw [rs_s, h k (by omega) (by omega), if_neg Bool.false_ne_true]
    exact ih (k + 1) c (fun k' h1 h2 => h k' (by omega) (by omega))
theorem rs_tail {R : Nat → Bool} {i : Int32} {b : Nat} : ∀ a k c, (∀ k', k + a ≤ k' → k' < k + a + b → R k' = false) → rs R i (a + b) k c = rs R i a k c := by
  intro a
  induction a with
  | zero =>
    intro k c h
    rw [Nat.zero_add]
    exact rs_none b k c (fun k' h1 h2 => h k' (by omega) (by omega))
  | succ a ih =>
    intro k c h
    rw [show a + 1 + b = a + b + 1 by omega, rs_s, rs_s, ih (k + 1) (c + 1) (fun k' h1 h2 => h k' (by omega) (by omega)), ih (k + 1) c (fun k' h1 h2 => h k' (by omega) (by omega))]
theorem zs_N {R : Nat → Nat → Bool} {i : Int32} {N N' : Nat} (h : ∀ z c, rs (R z) i N 0 c = rs (R z) i N' 0 c) : ∀ n z c, zs R i N n z c = zs R i N' n z c := by
  intro n
  induction n with
  | zero => exact fun _ _ => rfl
  | succ n ih =>
    intro z c
    rw [zs_s, zs_s, h z c]
    cases rs (R z) i N' 0 c with
    | inl k => rfl
    | inr c' => exact ih (z + 1) c'
theorem zs_tail {R : Nat → Nat → Bool} {i : Int32} {N b : Nat} : ∀ a z c, (∀ z', z + a ≤ z' → z' < z + a + b → ∀ k, k < N → R z' k = false) → zs R i N (a + b) z c = zs R i N a z c := by
  intro a
  induction a with
  | zero =>
    intro z c h
    rw [Nat.zero_add]
    show _ = Sum.inr c
    have : ∀ b z c, (∀ z', z ≤ z' → z' < z + b → ∀ k, k < N → R z' k = false) → zs R i N b z c = .inr c := by
      intro b
      induction b with
      | zero => exact fun _ _ _ => rfl
      | succ b ih =>
        intro z c h
        rw [zs_s, rs_none N 0 c (fun k h1 h2 => h z (by omega) (by omega) k (by omega))]
        exact ih (z + 1) c (fun z' h1 h2 => h z' (by omega) (by omega))
    exact this b z c (fun z' h1 h2 => h z' (by omega) (by omega))
  | succ a ih =>
    intro z c h
    rw [show a + 1 + b = a + b + 1 by omega, zs_s, zs_s]
    cases rs (R z) i N 0 c with
    | inl k => rfl
    | inr c' => exact ih (z + 1) c' (fun z' h1 h2 => h z' (by omega) (by omega))
theorem nI_ne_neg {c : Nat} {i : Int32} (hc : c ≤ 1000000) (hi : i < 0) : ¬ nI c = i := fun e => by
  have h0 : ¬ nI c < 0 := nI_pos (by omega)
  rw [e] at h0
  exact h0 hi
theorem rs_neg {R : Nat → Bool} {i : Int32} (hi : i < 0) : ∀ j k c, c + j ≤ 1000000 → ∃ c', rs R i j k c = .inr c' ∧ c' + cnt R k = c + cnt R (k + j) := by
  intro j
  induction j with
  | zero => exact fun k c _ => ⟨c, rfl, rfl⟩
  | succ j ih =>
    intro k c h
    rw [rs_s]
    have hs := cnt_s R k
    by_cases e : R k = true
    · rw [if_pos e] at hs ⊢
      rw [if_neg (nI_ne_neg (by omega) hi)]
      obtain ⟨c', h1, h2⟩ := ih (k + 1) (c + 1) (by omega)
      refine ⟨c', h1, ?_⟩
      rw [show k + (j + 1) = k + 1 + j by omega]
      omega
    · rw [if_neg e] at hs ⊢
      obtain ⟨c', h1, h2⟩ := ih (k + 1) c (by omega)
      refine ⟨c', h1, ?_⟩
      rw [show k + (j + 1) = k + 1 + j by omega]
      omega
def sm (f : Nat → Nat) : Nat → Nat
  | 0 => 0
  | n + 1 => sm f n + f n
theorem sm_s (f : Nat → Nat) (n : Nat) : sm f (n + 1) = sm f n + f n := by rw [sm]
theorem sm_congr {f g : Nat → Nat} : ∀ n, (∀ k, k < n → f k = g k) → sm f n = sm g n := by
  intro n
  induction n with
  | zero => exact fun _ => rfl
  | succ n ih => intro h; rw [sm_s, sm_s, ih (fun k hk => h k (by omega)), h n (by omega)]
theorem sm_one {f g : Nat → Nat} {z0 M : Nat} (h0 : g z0 = f z0 + 1) (h : ∀ k, k < M → k ≠ z0 → g k = f k) : ∀ n, n ≤ M → sm g n = sm f n + if z0 < n then 1 else 0 := by
  intro n
  induction n with
  | zero => exact fun _ => rfl
  | succ n ih =>
    intro hn
    rw [sm_s, sm_s, ih (by omega)]
    by_cases e : n = z0
    · subst e
      rw [h0, if_neg (by omega), if_pos (by omega)]
      omega
    · rw [h n (by omega) e]
      by_cases e2 : z0 < n
      · rw [if_pos e2, if_pos (by omega)]
        omega
      · rw [if_neg e2, if_neg (by omega)]
        omega
theorem zs_neg {R : Nat → Nat → Bool} {i : Int32} {N : Nat} (hi : i < 0) (hN : N ≤ 64) : ∀ j z c, c + j * 64 ≤ 1000000 → ∃ c', zs R i N j z c = .inr c' ∧ c' + sm (fun z => cnt (R z) N) z = c + sm (fun z => cnt (R z) N) (z + j) := by
  intro j
  induction j with
  | zero => exact fun z c _ => ⟨c, rfl, rfl⟩
  | succ j ih =>
    intro z c h
    obtain ⟨c1, h1, h2⟩ := rs_neg (R := R z) hi N 0 c (by omega)
    rw [zs_s, h1]
    have h3 : cnt (R z) 0 = 0 := rfl
    rw [Nat.zero_add, h3] at h2
    have h4 := cnt_le (R z) N
    obtain ⟨c2, h5, h6⟩ := ih (z + 1) c1 (by omega)
    refine ⟨c2, h5, ?_⟩
    have h7 : sm (fun z => cnt (R z) N) (z + 1) = sm (fun z => cnt (R z) N) z + cnt (R z) N := sm_s _ z
    rw [show z + (j + 1) = z + 1 + j by omega]
    omega
theorem bcw : ∀ w, w ≤ 6 → ∀ k, k < 2 ^ w → ∃ z, z < w + 1 ∧ bc (nI k) = nI z := by decide +kernel
def rR (P : Nat → Bool) (z k : Nat) : Bool := decide (bc (nI k) = nI z) && P k
theorem rR_sum {P : Nat → Bool} {Z : Nat} (hZ : Z ≤ 1000) : ∀ N, (∀ k, k < N → ∃ z, z < Z ∧ bc (nI k) = nI z) → sm (fun z => cnt (rR P z) N) Z = cnt P N := by
  intro N
  induction N with
  | zero =>
    intro _
    have : ∀ n, sm (fun z => cnt (rR P z) 0) n = 0 := by
      intro n
      induction n with
      | zero => rfl
      | succ n ih => rw [sm_s, ih]; rfl
    exact this Z
  | succ N ih =>
    intro h
    have i := ih (fun k hk => h k (by omega))
    obtain ⟨z0, h1, h2⟩ := h N (by omega)
    rw [cnt_s]
    by_cases e : P N = true
    · rw [if_pos e, ← i]
      have := sm_one (f := fun z => cnt (rR P z) N) (g := fun z => cnt (rR P z) (N + 1)) (z0 := z0) (M := Z) (by
        show cnt (rR P z0) (N + 1) = cnt (rR P z0) N + 1
        rw [cnt_s, if_pos]
        unfold rR
        rw [h2, e]
        simp) (fun k hkZ hk => by
        show cnt (rR P k) (N + 1) = cnt (rR P k) N
        rw [cnt_s]
        by_cases hr : rR P k N = true
        · exfalso
          unfold rR at hr
          rw [h2] at hr
          simp only [Bool.and_eq_true, decide_eq_true_eq] at hr
          exact hk ((nieq (by omega) (by omega)).mp hr.1).symm
        · rw [if_neg hr]) Z (Nat.le_refl Z)
      rw [this, if_pos h1]
    · rw [if_neg e, ← i]
      refine sm_congr Z (fun k hk => ?_)
      rw [cnt_s, if_neg]
      unfold rR
      rw [Bool.not_eq_true] at e
      rw [e, Bool.and_false]
      exact Bool.false_ne_true
theorem nI_m1 (a : Nat) : nI (a + 1) + (-1) = nI a := by
  rw [← nI_add a 1, Int32.add_assoc, show nI 1 + (-1 : Int32) = 0 from by decide, Int32.add_zero]
section NO
variable {l : Launch} {d : Nat} {σ : aW}
theorem row_c {Q : Option Value → aW → Prop} {n s m I z : Nat} {g u : Nat → Int32} (h : SC σ n s g u) (hm : m < 64) (hI : I < 2 ^ 31) : ∀ j k c, k + j = m + 1 → c ≤ I → (match rs (rR (fun k => ft g u (nI m) (nI k) n) z) (nI I) j k c with
      | .inl k' => Q (some (.int (nI k'))) σ
      | .inr c' => c' ≤ I → aE l (d + 3) none 6 cX6_fittingAt (some .int) Q 75 [some (.ref 103), some (.ref 9), some (.int (nI m)), some (.int (nI I)), some (.int (nI (I - c'))), some (.int (nI z)), some (.int (nI (m + 1)))] [] σ) →
    aE l (d + 3) none 6 cX6_fittingAt (some .int) Q 21 [some (.ref 103), some (.ref 9), some (.int (nI m)), some (.int (nI I)), some (.int (nI (I - c))), some (.int (nI z)), some (.int (nI k))] [] σ := by
  intro j
  induction j with
  | zero =>
    intro k c hkn hc hq
    have hkn : k = m + 1 := by omega
    subst hkn
    have e1 : nI m < nI (m + 1) := (nilt (by omega) (by omega)).mpr (by omega)
    rw [eX6_fittingAt_21]
    simp only [eX6_fittingAt_23, eX6_fittingAt_24, fx0, fx1, fx2, fx3, fx4, nl_int, nl_ref, nl_none, nl_ti, rz_nil, rz_int, rz_ref, rz_long, cf1, cf2, Option.toList_some, Option.toList_none, List.cons_append, List.nil_append, e1, if_true]
    exact hq hc
  | succ j ih =>
    intro k c hkn hc hq
    have e1 : ¬ nI m < nI k := by rw [nilt (by omega) (by omega)]; omega
    have e2 : ¬ (64 : Int32) ≤ nI k := by rw [show (64 : Int32) = nI 64 from rfl, nile (by omega) (by omega)]; omega
    rw [rs_s] at hq
    rw [eX6_fittingAt_21]
    simp only [eX6_fittingAt_23, eX6_fittingAt_24, eX6_fittingAt_27, eX6_fittingAt_29, eX6_fittingAt_31, eX6_fittingAt_34, eX6_fittingAt_36, fx0, fx1, fx2, fx3, fx4, nl_int, nl_ref, nl_none, nl_ti, rz_nil, rz_int, rz_ref, rz_long, cf1, cf2, Option.toList_some, Option.toList_none, List.cons_append, List.nil_append, e1, e2, if_false]
    refine aC.of c_bitCount ?_
    by_cases e3 : bc (nI k) = nI z
    · rw [show rR (fun k => ft g u (nI m) (nI k) n) z k = ft g u (nI m) (nI k) n from by unfold rR; rw [decide_eq_true e3, Bool.true_and]] at hq
      simp only [eX6_fittingAt_39, eX6_fittingAt_41, eX6_fittingAt_44, eX6_fittingAt_45, eX6_fittingAt_46, eX6_fittingAt_47, eX6_fittingAt_49, fx0, fx1, fx2, fx3, fx4, nl_int, nl_ref, nl_none, nl_ti, rz_nil, rz_int, rz_ref, rz_long, cf1, cf2, Option.toList_some, Option.toList_none, List.cons_append, List.nil_append, e3, if_true]
      refine aC.of (c_fits h) ?_
      by_cases e : ft g u (nI m) (nI k) n = true
      · rw [if_pos e] at hq
        by_cases ec : c = I
        · subst ec
          rw [if_pos rfl] at hq
          simp only [eX6_fittingAt_52, eX6_fittingAt_55, eX6_fittingAt_58, eX6_fittingAt_60, eX6_fittingAt_63, eX6_fittingAt_65, fx0, fx1, fx2, fx3, fx4, nl_int, nl_ref, nl_none, nl_ti, rz_nil, rz_int, rz_ref, rz_long, cf1, cf2, Option.toList_some, Option.toList_none, List.cons_append, List.nil_append, e, if_true, show ¬ (1 : Int32) = 0 by decide, if_false, Nat.sub_self, show nI 0 = 0 from rfl]
          exact hq
        · have ec2 : ¬ nI c = nI I := fun e4 => ec (by
            have := congrArg Int32.toInt e4
            rw [nI_toInt (by omega), nI_toInt hI] at this
            omega)
          have ec3 : ¬ nI (I - c) = 0 := nI_ne0 (by omega) (by omega)
          rw [if_neg ec2] at hq
          have key := ih (k + 1) (c + 1) (by omega) (by omega) hq
          simp only [eX6_fittingAt_52, eX6_fittingAt_55, eX6_fittingAt_58, eX6_fittingAt_60, eX6_fittingAt_63, eX6_fittingAt_65, eX6_fittingAt_66, eX6_fittingAt_69, eX6_fittingAt_72, fx0, fx1, fx2, fx3, fx4, nl_int, nl_ref, nl_none, nl_ti, rz_nil, rz_int, rz_ref, rz_long, cf1, cf2, Option.toList_some, Option.toList_none, List.cons_append, List.nil_append, e, if_true, show ¬ (1 : Int32) = 0 by decide, if_false, ec3, nI_1]
          rw [show I - c = (I - (c + 1)) + 1 by omega, nI_m1]
          exact key
      · rw [if_neg e] at hq
        have key := ih (k + 1) c (by omega) hc hq
        simp only [eX6_fittingAt_52, eX6_fittingAt_55, eX6_fittingAt_69, eX6_fittingAt_72, fx0, fx1, fx2, fx3, fx4, nl_int, nl_ref, nl_none, nl_ti, rz_nil, rz_int, rz_ref, rz_long, cf1, cf2, Option.toList_some, Option.toList_none, List.cons_append, List.nil_append, e, if_true, if_false, nI_1]
        exact key
    · rw [show rR (fun k => ft g u (nI m) (nI k) n) z k = false from by unfold rR; rw [decide_eq_false e3, Bool.false_and], if_neg Bool.false_ne_true] at hq
      have key := ih (k + 1) c (by omega) hc hq
      simp only [eX6_fittingAt_39, eX6_fittingAt_41, eX6_fittingAt_69, eX6_fittingAt_72, fx0, fx1, fx2, fx3, fx4, nl_int, nl_ref, nl_none, nl_ti, rz_nil, rz_int, rz_ref, rz_long, cf1, cf2, Option.toList_some, Option.toList_none, List.cons_append, List.nil_append, e3, if_false, nI_1]
      exact key
theorem zs_c {Q : Option Value → aW → Prop} {n s m I : Nat} {g u : Nat → Int32} (h : SC σ n s g u) (hm : m < 64) (hI : I < 2 ^ 31) : ∀ j z c t, z + j = 7 → c ≤ I → (match zs (rR (fun k => ft g u (nI m) (nI k) n)) (nI I) (m + 1) j z c with
      | .inl k' => Q (some (.int (nI k'))) σ
      | .inr _ => Q (some (.int (-1))) σ) →
    aE l (d + 3) none 6 cX6_fittingAt (some .int) Q 6 [some (.ref 103), some (.ref 9), some (.int (nI m)), some (.int (nI I)), some (.int (nI (I - c))), some (.int (nI z)), ti t] [] σ := by
  intro j
  induction j with
  | zero =>
    intro z c t hz hc hq
    have hz : z = 7 := by omega
    subst hz
    have e1 : (6 : Int32) < nI 7 := by decide
    simp only [eX6_fittingAt_6, eX6_fittingAt_8, eX6_fittingAt_10, eX6_fittingAt_81, eX6_fittingAt_82, fx0, fx1, fx2, fx3, fx4, nl_int, nl_ref, nl_none, nl_ti, rz_nil, rz_int, rz_ref, rz_long, cf1, cf2, Option.toList_some, Option.toList_none, List.cons_append, List.nil_append, e1, if_true]
    exact hq
  | succ j ih =>
    intro z c t hz hc hq
    have e1 : ¬ (6 : Int32) < nI z := by rw [show (6 : Int32) = nI 6 from rfl, nilt (by omega) (by omega)]; omega
    have e2 : ¬ nI (I - c) < 0 := nI_pos (by omega)
    rw [zs_s] at hq
    rw [eX6_fittingAt_6]
    simp only [eX6_fittingAt_8, eX6_fittingAt_10, eX6_fittingAt_13, eX6_fittingAt_15, eX6_fittingAt_18, eX6_fittingAt_19, fx0, fx1, fx2, fx3, fx4, nl_int, nl_ref, nl_none, nl_ti, rz_nil, rz_int, rz_ref, rz_long, cf1, cf2, Option.toList_some, Option.toList_none, List.cons_append, List.nil_append, e1, e2, if_false]
    refine row_c h hm hI (m + 1) 0 c (by omega) hc ?_
    revert hq
    generalize rs (rR (fun k => ft g u (nI m) (nI k) n) z) (nI I) (m + 1) 0 c = r
    cases r with
    | inl k => exact fun hq => hq
    | inr c' =>
      intro hq hc'
      simp only [eX6_fittingAt_75, eX6_fittingAt_78, fx0, fx1, fx2, fx3, fx4, nl_int, nl_ref, nl_none, nl_ti, rz_nil, rz_int, rz_ref, rz_long, cf1, cf2, Option.toList_some, Option.toList_none, List.cons_append, List.nil_append, nI_1]
      exact ih (z + 1) c' (some _) (by omega) hc' hq
theorem row_m {Q : Option Value → aW → Prop} {n w m z : Nat} {i : Int32} {g u : Nat → Int32} (h : SM σ n g u) (hw : σ 109 4 = nI w) (hw6 : w ≤ 6) : ∀ j k c, k + j = 2 ^ w → (match rs (rR (fun k => ft g u (nI m) (nI k) n) z) i j k c with
      | .inl k' => Q (some (.int (nI k'))) σ
      | .inr c' => aE l (d + 3) none 10 cX10_nodded (some .int) Q 88 [some (.ref 109), some (.int (nI m)), some (.int i), some (.int (nI c')), some (.int (nI z)), some (.int (nI (2 ^ w)))] [] σ) →
    aE l (d + 3) none 10 cX10_nodded (some .int) Q 40 [some (.ref 109), some (.int (nI m)), some (.int i), some (.int (nI c)), some (.int (nI z)), some (.int (nI k))] [] σ := by
  have hp : 2 ^ w ≤ 2 ^ 6 := Nat.pow_le_pow_right (by decide) hw6
  intro j
  induction j with
  | zero =>
    intro k c hkn hq
    have hkn : k = 2 ^ w := by omega
    rw [hkn]
    have e1 : nI (2 ^ w) ≤ nI (2 ^ w) := (nile (by omega) (by omega)).mpr (Nat.le_refl _)
    rw [eX10_nodded_40]
    simp only [eX10_nodded_42, eX10_nodded_43, eX10_nodded_44, eX10_nodded_47, eX10_nodded_48, fx0, fx1, fx2, fx3, fx4, nl_int, nl_ref, nl_none, nl_ti, rz_nil, rz_int, rz_ref, rz_long, cf1, cf2, Option.toList_some, Option.toList_none, List.cons_append, List.nil_append, hw, sh6 w hw6, e1, if_true]
    exact hq
  | succ j ih =>
    intro k c hkn hq
    have e1 : ¬ nI (2 ^ w) ≤ nI k := by rw [nile (by omega) (by omega)]; omega
    rw [rs_s] at hq
    rw [eX10_nodded_40]
    simp only [eX10_nodded_42, eX10_nodded_43, eX10_nodded_44, eX10_nodded_47, eX10_nodded_48, eX10_nodded_51, eX10_nodded_53, fx0, fx1, fx2, fx3, fx4, nl_int, nl_ref, nl_none, nl_ti, rz_nil, rz_int, rz_ref, rz_long, cf1, cf2, Option.toList_some, Option.toList_none, List.cons_append, List.nil_append, hw, sh6 w hw6, e1, if_false]
    refine aC.of m_bits ?_
    rw [← bc_bits k (by omega)]
    by_cases e3 : bc (nI k) = nI z
    · rw [show rR (fun k => ft g u (nI m) (nI k) n) z k = ft g u (nI m) (nI k) n from by unfold rR; rw [decide_eq_true e3, Bool.true_and]] at hq
      simp only [eX10_nodded_56, eX10_nodded_58, eX10_nodded_61, eX10_nodded_62, eX10_nodded_63, eX10_nodded_65, fx0, fx1, fx2, fx3, fx4, nl_int, nl_ref, nl_none, nl_ti, rz_nil, rz_int, rz_ref, rz_long, cf1, cf2, Option.toList_some, Option.toList_none, List.cons_append, List.nil_append, e3, if_true]
      refine aC.of (m_couldNod h) ?_
      by_cases e : ft g u (nI m) (nI k) n = true
      · rw [if_pos e] at hq
        by_cases ec : nI c = i
        · rw [if_pos ec] at hq
          simp only [eX10_nodded_68, eX10_nodded_71, eX10_nodded_72, eX10_nodded_73, eX10_nodded_76, eX10_nodded_78, fx0, fx1, fx2, fx3, fx4, nl_int, nl_ref, nl_none, nl_ti, rz_nil, rz_int, rz_ref, rz_long, cf1, cf2, Option.toList_some, Option.toList_none, List.cons_append, List.nil_append, e, if_true, show ¬ (1 : Int32) = 0 by decide, if_false, ec]
          exact hq
        · rw [if_neg ec] at hq
          have key := ih (k + 1) (c + 1) (by omega) hq
          simp only [eX10_nodded_68, eX10_nodded_71, eX10_nodded_72, eX10_nodded_73, eX10_nodded_76, eX10_nodded_78, eX10_nodded_79, eX10_nodded_82, eX10_nodded_85, fx0, fx1, fx2, fx3, fx4, nl_int, nl_ref, nl_none, nl_ti, rz_nil, rz_int, rz_ref, rz_long, cf1, cf2, Option.toList_some, Option.toList_none, List.cons_append, List.nil_append, e, if_true, show ¬ (1 : Int32) = 0 by decide, if_false, ec, nI_1]
          exact key
      · rw [if_neg e] at hq
        have key := ih (k + 1) c (by omega) hq
        simp only [eX10_nodded_68, eX10_nodded_82, eX10_nodded_85, fx0, fx1, fx2, fx3, fx4, nl_int, nl_ref, nl_none, nl_ti, rz_nil, rz_int, rz_ref, rz_long, cf1, cf2, Option.toList_some, Option.toList_none, List.cons_append, List.nil_append, e, if_true, if_false, nI_1]
        exact key
    · rw [show rR (fun k => ft g u (nI m) (nI k) n) z k = false from by unfold rR; rw [decide_eq_false e3, Bool.false_and], if_neg Bool.false_ne_true] at hq
      have key := ih (k + 1) c (by omega) hq
      simp only [eX10_nodded_56, eX10_nodded_58, eX10_nodded_82, eX10_nodded_85, fx0, fx1, fx2, fx3, fx4, nl_int, nl_ref, nl_none, nl_ti, rz_nil, rz_int, rz_ref, rz_long, cf1, cf2, Option.toList_some, Option.toList_none, List.cons_append, List.nil_append, e3, if_false, nI_1]
      exact key
theorem zs_m {Q : Option Value → aW → Prop} {n w m : Nat} {i : Int32} {g u : Nat → Int32} (h : SM σ n g u) (hw : σ 109 4 = nI w) (hw6 : w ≤ 6) : ∀ j z c t, z + j = w + 1 → (match zs (rR (fun k => ft g u (nI m) (nI k) n)) i (2 ^ w) j z c with
      | .inl k' => Q (some (.int (nI k'))) σ
      | .inr c' => Q (some (.int (if i = -1 then nI c' else -1))) σ) →
    aE l (d + 3) none 10 cX10_nodded (some .int) Q 28 [some (.ref 109), some (.int (nI m)), some (.int i), some (.int (nI c)), some (.int (nI z)), ti t] [] σ := by
  intro j
  induction j with
  | zero =>
    intro z c t hz hq
    have hz : z = w + 1 := by omega
    subst hz
    have e1 : nI w < nI (w + 1) := (nilt (by omega) (by omega)).mpr (by omega)
    have hq : Q (some (.int (if i = -1 then nI c else -1))) σ := hq
    rw [eX10_nodded_28]
    by_cases ei : i = -1
    · rw [if_pos ei] at hq
      simp only [eX10_nodded_30, eX10_nodded_31, eX10_nodded_34, eX10_nodded_94, eX10_nodded_95, eX10_nodded_96, eX10_nodded_99, eX10_nodded_100, eX10_nodded_103, eX10_nodded_104, fx0, fx1, fx2, fx3, fx4, nl_int, nl_ref, nl_none, nl_ti, rz_nil, rz_int, rz_ref, rz_long, cf1, cf2, Option.toList_some, Option.toList_none, List.cons_append, List.nil_append, hw, e1, if_true, ei]
      exact hq
    · rw [if_neg ei] at hq
      simp only [eX10_nodded_30, eX10_nodded_31, eX10_nodded_34, eX10_nodded_94, eX10_nodded_95, eX10_nodded_96, eX10_nodded_99, eX10_nodded_100, eX10_nodded_103, eX10_nodded_104, fx0, fx1, fx2, fx3, fx4, nl_int, nl_ref, nl_none, nl_ti, rz_nil, rz_int, rz_ref, rz_long, cf1, cf2, Option.toList_some, Option.toList_none, List.cons_append, List.nil_append, hw, e1, if_true, ei, if_false]
      exact hq
  | succ j ih =>
    intro z c t hz hq
    have e1 : ¬ nI w < nI z := by rw [nilt (by omega) (by omega)]; omega
    rw [zs_s] at hq
    rw [eX10_nodded_28]
    simp only [eX10_nodded_30, eX10_nodded_31, eX10_nodded_34, eX10_nodded_37, eX10_nodded_38, fx0, fx1, fx2, fx3, fx4, nl_int, nl_ref, nl_none, nl_ti, rz_nil, rz_int, rz_ref, rz_long, cf1, cf2, Option.toList_some, Option.toList_none, List.cons_append, List.nil_append, hw, e1, if_false]
    refine row_m h hw hw6 (2 ^ w) 0 c (by omega) ?_
    revert hq
    generalize rs (rR (fun k => ft g u (nI m) (nI k) n) z) i (2 ^ w) 0 c = r
    cases r with
    | inl k => exact fun hq => hq
    | inr c' =>
      intro hq
      simp only [eX10_nodded_88, eX10_nodded_91, fx0, fx1, fx2, fx3, fx4, nl_int, nl_ref, nl_none, nl_ti, rz_nil, rz_int, rz_ref, rz_long, cf1, cf2, Option.toList_some, Option.toList_none, List.cons_append, List.nil_append, nI_1]
      exact ih (z + 1) c' (some _) (by omega) hq
end NO
