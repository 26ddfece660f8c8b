/-! rest, drift -/
theorem land_mask {n : Nat} (h : n < 2 ^ 63) : lN n &&& 2147483647 = lN (n % 2147483648) := by
  apply Int64.toBitVec_inj.mp
  apply BitVec.eq_of_toNat_eq
  rw [Int64.toBitVec_and, BitVec.toNat_and]
  have e1 : (lN n).toBitVec.toNat = n := by
    show (Int64.ofNat n).toBitVec.toNat = n
    rw [Int64.toBitVec_ofNat', BitVec.toNat_ofNat]
    omega
  have e2 : (lN (n % 2147483648)).toBitVec.toNat = n % 2147483648 := by
    show (Int64.ofNat _).toBitVec.toNat = _
    rw [Int64.toBitVec_ofNat', BitVec.toNat_ofNat]
    omega
  rw [e1, e2, show ((2147483647 : Int64).toBitVec).toNat = 2 ^ 31 - 1 by decide, Nat.and_two_pow_sub_one_eq_mod]
theorem dr_at {a : Nat} (h : a < 2 ^ 31) : drF (nI a) = nI ((a * 1103515245 + 12345) % 2147483648) ∧ drM (nI a) = nI ((a * 1103515245 + 12345) % 2147483648) := by
  have e1 : (nI a).toInt64 * 1103515245 + 12345 = lN (a * 1103515245 + 12345) := by
    rw [nI_l h, show (1103515245 : Int64) = lN 1103515245 from rfl, show (12345 : Int64) = lN 12345 from rfl, lN_mul, lN_add]
  have hb : a * 1103515245 + 12345 < 2 ^ 63 := by
    have : a * 1103515245 ≤ 2147483647 * 1103515245 := Nat.mul_le_mul_right _ (by omega)
    omega
  constructor
  · unfold drF
    rw [e1, land_mask hb, lN_i]
  · unfold drM
    rw [e1, show (2147483648 : Int64) = lN 2147483648 from rfl, pk_lRem hb (by decide) (by decide), lN_i]
theorem dr_ok {v : Int32} (h : ¬ v < 0) : drF v = drM v ∧ ¬ drM v < 0 := by
  obtain ⟨a, ha, rfl⟩ := nI_of h
  obtain ⟨h1, h2⟩ := dr_at ha
  rw [h1, h2]
  exact ⟨rfl, nI_pos (Nat.mod_lt _ (by decide))⟩
def dset (w : Nat) (v : Int32) : Int32 := remI (drM v / 65536) (1 <<< (nI w &&& 31))
def drung (v : Int32) : Int32 := if remI (drM (drM v) / 65536) 3 = 0 then 1 else 0
theorem shl6 : ∀ w, w ≤ 6 → (1 : Int32) <<< (nI w &&& 31) = nI (2 ^ w) := by decide +kernel
theorem dset_lt {w : Nat} {v : Int32} (hw : w ≤ 6) (h : ¬ v < 0) : ∃ m, m < 2 ^ w ∧ dset w v = nI m := by
  obtain ⟨a, ha, e⟩ := nI_of (dr_ok h).2
  have hp : 2 ^ w ≤ 2 ^ 6 := Nat.pow_le_pow_right (by decide) hw
  have hp1 : 0 < 2 ^ w := Nat.two_pow_pos w
  refine ⟨a / 65536 % 2 ^ w, Nat.mod_lt _ hp1, ?_⟩
  unfold dset remI
  rw [e, shl6 w hw, show (65536 : Int32) = nI 65536 from rfl, pk_div ha (by decide) (by decide), pk_rem (by omega) hp1 (by omega)]
def itR (w : Nat) (μ : aW) : Nat → (Nat → Int32) → (Nat → Int32)
  | 0, r => r
  | k + 1, r => rowR w μ (itR w μ k r)
def itD (w s : Nat) (μ : aW) : Nat → (Nat → Int32) × Int32 → (Nat → Int32) × Int32
  | 0, x => x
  | k + 1, x => (rowH w s μ (dset w (itD w s μ k x).2) (drung (itD w s μ k x).2) (itD w s μ k x).1, drM (drM (itD w s μ k x).2))
theorem itR_ok {h w s b : Nat} {μ σ : aW} {r : Nat → Int32} (hk : KC h w s μ σ) (hr : RokB b w r) : ∀ n, b + n < 1000000 → RokB (b + n) w (itR w μ n r) := by
  intro n
  induction n with
  | zero => exact fun _ => hr
  | succ n ih => exact fun hb => rowR_ok (b := b + n) hk (by omega) (ih (by omega))
theorem itD_ok {h w s b : Nat} {μ σ : aW} {r : Nat → Int32} {v : Int32} (hk : KC h w s μ σ) (hr : RokB b w r) (hv : ¬ v < 0) : ∀ n, b + n < 1000000 → RokB (b + n) w (itD w s μ n (r, v)).1 ∧ ¬ (itD w s μ n (r, v)).2 < 0 := by
  intro n
  induction n with
  | zero => exact fun _ => ⟨hr, hv⟩
  | succ n ih =>
    intro hb
    obtain ⟨h1, h2⟩ := ih (by omega)
    exact ⟨rowH_ok (b := b + n) hk (by omega) h1, (dr_ok (dr_ok h2).2).2⟩
theorem nod0 {mo le lim t : Nat → Int32} {rung B : Int32} : ∀ p, p ≤ 8 → nodS 0 rung B mo le lim t p = 0 := by
  intro p
  induction p with
  | zero => exact fun _ => rfl
  | succ p ih =>
    intro hp
    unfold nodS
    rw [if_pos ((by decide : ∀ p, p < 8 → (0 : Int32) >>> (nI p &&& 31) &&& 1 = 0) p (by omega))]
    exact ih (by omega)
section O7
variable {l : Launch} {d : Nat} {σ : aW}
theorem c_refusal {n : Int32} : Sem l (d + 2) 89 [.ref 0, .int n] σ (some (.int (if n < 1 then -1000000002 else if n ≤ 60 then (if σ 9 0 ≤ 0 then -1000000003 else if σ 15 0 ≤ 90000 then -1 else -1000000004) else -1000000002))) σ := by
  refine Sem_of rfl (Nat.le_of_ble_eq_true rfl) ?_
  show aE l (d + 1) none 9 cX9_refusalOfHours (some .int) _ 0 [some (.ref 0), some (.int n)] [] σ
  by_cases h1 : n < 1
  · simp only [eX9_refusalOfHours_0, eX9_refusalOfHours_1, eX9_refusalOfHours_2, eX9_refusalOfHours_5, eX9_refusalOfHours_6, eX9_refusalOfHours_8, eX9_refusalOfHours_11, eX9_refusalOfHours_13, eX9_refusalOfHours_14, eX9_refusalOfHours_15, eX9_refusalOfHours_18, eX9_refusalOfHours_21, eX9_refusalOfHours_24, eX9_refusalOfHours_26, eX9_refusalOfHours_27, eX9_refusalOfHours_28, eX9_refusalOfHours_31, eX9_refusalOfHours_34, eX9_refusalOfHours_36, eX9_refusalOfHours_39, eX9_refusalOfHours_41, eX9_refusalOfHours_42, eX9_refusalOfHours_43, fx0, fx1, fx2, fx3, fx4, nl_int, nl_ref, nl_none, nl_ti, rz_nil, rz_int, rz_ref, rz_long, cf1, cf2, Option.toList_some, Option.toList_none, List.cons_append, List.nil_append, h1, if_true, true_or, or_true, true_and, and_true, and_self]
  by_cases h2 : n ≤ 60
  · simp only [eX9_refusalOfHours_0, eX9_refusalOfHours_1, eX9_refusalOfHours_2, eX9_refusalOfHours_5, eX9_refusalOfHours_6, eX9_refusalOfHours_8, eX9_refusalOfHours_11, eX9_refusalOfHours_13, eX9_refusalOfHours_14, eX9_refusalOfHours_15, eX9_refusalOfHours_18, fx0, fx1, fx2, fx3, fx4, nl_int, nl_ref, nl_none, nl_ti, rz_nil, rz_int, rz_ref, rz_long, cf1, cf2, Option.toList_some, Option.toList_none, List.cons_append, List.nil_append, h1, h2, if_true, if_false]
    refine aC.of (c_stands (Or.inr rfl)) ?_
    by_cases h3 : σ 9 0 ≤ 0
    · simp only [eX9_refusalOfHours_21, eX9_refusalOfHours_24, eX9_refusalOfHours_26, eX9_refusalOfHours_27, eX9_refusalOfHours_28, eX9_refusalOfHours_31, eX9_refusalOfHours_34, eX9_refusalOfHours_36, eX9_refusalOfHours_39, eX9_refusalOfHours_41, eX9_refusalOfHours_42, eX9_refusalOfHours_43, fx0, fx1, fx2, fx3, fx4, nl_int, nl_ref, nl_none, nl_ti, rz_nil, rz_int, rz_ref, rz_long, cf1, cf2, Option.toList_some, Option.toList_none, List.cons_append, List.nil_append, h3, if_true, true_or, or_true, true_and, and_true, and_self]
    by_cases h4 : σ 15 0 ≤ 90000
    · simp only [eX9_refusalOfHours_21, eX9_refusalOfHours_24, eX9_refusalOfHours_26, eX9_refusalOfHours_27, eX9_refusalOfHours_28, eX9_refusalOfHours_31, eX9_refusalOfHours_34, eX9_refusalOfHours_36, eX9_refusalOfHours_39, eX9_refusalOfHours_41, eX9_refusalOfHours_42, eX9_refusalOfHours_43, fx0, fx1, fx2, fx3, fx4, nl_int, nl_ref, nl_none, nl_ti, rz_nil, rz_int, rz_ref, rz_long, cf1, cf2, Option.toList_some, Option.toList_none, List.cons_append, List.nil_append, h3, h4, if_true, if_false, true_or, or_true, true_and, and_true, and_self, show ¬ (1 : Int32) = 0 by decide]
    · simp only [eX9_refusalOfHours_21, eX9_refusalOfHours_24, eX9_refusalOfHours_26, eX9_refusalOfHours_27, eX9_refusalOfHours_28, eX9_refusalOfHours_31, eX9_refusalOfHours_34, eX9_refusalOfHours_36, eX9_refusalOfHours_39, eX9_refusalOfHours_41, eX9_refusalOfHours_42, eX9_refusalOfHours_43, fx0, fx1, fx2, fx3, fx4, nl_int, nl_ref, nl_none, nl_ti, rz_nil, rz_int, rz_ref, rz_long, cf1, cf2, Option.toList_some, Option.toList_none, List.cons_append, List.nil_append, h3, h4, if_false, true_or, or_true, true_and, and_true, and_self, show ¬ (1 : Int32) = 0 by decide]
  · simp only [eX9_refusalOfHours_0, eX9_refusalOfHours_1, eX9_refusalOfHours_2, eX9_refusalOfHours_5, eX9_refusalOfHours_6, eX9_refusalOfHours_8, eX9_refusalOfHours_11, eX9_refusalOfHours_13, eX9_refusalOfHours_14, eX9_refusalOfHours_15, eX9_refusalOfHours_18, eX9_refusalOfHours_21, eX9_refusalOfHours_24, eX9_refusalOfHours_26, eX9_refusalOfHours_27, eX9_refusalOfHours_28, eX9_refusalOfHours_31, eX9_refusalOfHours_34, eX9_refusalOfHours_36, eX9_refusalOfHours_39, eX9_refusalOfHours_41, eX9_refusalOfHours_42, eX9_refusalOfHours_43, fx0, fx1, fx2, fx3, fx4, nl_int, nl_ref, nl_none, nl_ti, rz_nil, rz_int, rz_ref, rz_long, cf1, cf2, Option.toList_some, Option.toList_none, List.cons_append, List.nil_append, h1, h2, if_false, true_or, or_true, true_and, and_true, and_self]
theorem rg60 (x : Int32) : (∃ n, 1 ≤ n ∧ n ≤ 60 ∧ x = nI n) ∨ ((∀ a b : Int32, (if x < 1 then a else if x ≤ 60 then b else a) = a) ∧ inB x.toInt64 1 60 = 0) := by
  by_cases h0 : x < 1
  · refine Or.inr ⟨fun a b => if_pos h0, ?_⟩
    unfold inB
    rw [if_pos]
    rw [Int64.lt_iff_toInt_lt, Int32.toInt_toInt64]
    exact Int32.lt_iff_toInt_lt.mp h0
  · have hneg : ¬ x < 0 := by
      rw [Int32.lt_iff_toInt_lt] at h0 ⊢
      rw [show (1 : Int32).toInt = 1 by decide] at h0
      rw [show (0 : Int32).toInt = 0 by decide]
      omega
    obtain ⟨j, hj, rfl⟩ := nI_of hneg
    rw [show (1 : Int32) = nI 1 from rfl, nI_ltI hj (by decide)] at h0
    by_cases h1 : j ≤ 60
    · exact Or.inl ⟨j, by omega, h1, rfl⟩
    · refine Or.inr ⟨fun a b => ?_, ?_⟩
      · rw [if_neg (by rw [show (1 : Int32) = nI 1 from rfl, nI_ltI hj (by decide)]; exact h0), if_neg (by rw [show (60 : Int32) = nI 60 from rfl, nI_leI hj (by decide)]; exact h1)]
      · unfold inB
        rw [if_neg, if_pos]
        · rw [Int64.lt_iff_toInt_lt, Int32.toInt_toInt64, nI_toInt hj, show (60 : Int64).toInt = 60 by decide]
          omega
        · rw [Int64.lt_iff_toInt_lt, Int32.toInt_toInt64, nI_toInt hj, show (1 : Int64).toInt = 1 by decide]
          omega
theorem rg601 : ∀ n, n ≤ 60 → 1 ≤ n → ¬ nI n < 1 ∧ nI n ≤ 60 ∧ inB (nI n).toInt64 1 60 = 1 := by decide +kernel
theorem rest_c {Q : Option Value → aW → Prop} {h w s N : Nat} {μ τ : aW} {r : Nat → Int32} {rf9 : Int32} (hN : N ≤ 60) (hh : 0 < h) (hKτ : KC h w s μ τ) (hk : ∀ σ', StR w σ' 15 (itR w μ N r) → (∀ c, c ≠ 15 → c ≠ 16 → σ' c = τ c) → aE l (d + 3) none 9 cX9_rest (some .int) Q 54 [some (.ref 0), some (.int (nI N)), some (.int rf9), some (.int (nI N))] [] σ') : ∀ m k σk, k + m = N → StR w σk 15 (itR w μ k r) → (∀ c, c ≠ 15 → c ≠ 16 → σk c = τ c) → aE l (d + 3) none 9 cX9_rest (some .int) Q 26 [some (.ref 0), some (.int (nI N)), some (.int rf9), some (.int (nI k))] [] σk := by
  intro m
  induction m with
  | zero =>
    intro k σk hkN hs hf
    have hkN : k = N := by omega
    subst hkN
    have h1 : nI k ≤ nI k := (nile (by omega) (by omega)).mpr (Nat.le_refl k)
    rw [eX9_rest_26]
    simp only [eX9_rest_27, eX9_rest_28, fx0, fx1, fx2, fx3, fx4, nl_int, nl_ref, nl_none, nl_ti, rz_nil, rz_int, rz_ref, rz_long, cf1, cf2, Option.toList_some, Option.toList_none, List.cons_append, List.nil_append, h1, if_true]
    exact hk σk hs hf
  | succ m ih =>
    intro k σk hkN hs hf
    have h1 : ¬ nI N ≤ nI k := by rw [nile (by omega) (by omega)]; omega
    have h2 : ¬ (60 : Int32) ≤ nI k := by rw [show (60 : Int32) = nI 60 from rfl, nile (by omega) (by omega)]; omega
    have hK2 : KC h w s μ σk := KC.congr hKτ (fun c h1 h2 => hf c (by omega) (by omega))
    rw [eX9_rest_26]
    simp only [eX9_rest_27, eX9_rest_28, eX9_rest_31, eX9_rest_32, eX9_rest_34, eX9_rest_37, eX9_rest_38, eX9_rest_41, eX9_rest_42, eX9_rest_45, fx0, fx1, fx2, fx3, fx4, nl_int, nl_ref, nl_none, nl_ti, rz_nil, rz_int, rz_ref, rz_long, cf1, cf2, Option.toList_some, Option.toList_none, List.cons_append, List.nil_append, h1, h2, if_false]
    refine (c_passResting hK2.1.1 hK2.1.2.2 (by rw [hK2.2.2.1.2.1]; exact nI_nle hh (by have := hK2.2.2.1.1; omega))).mono ?_
    rintro ro σ' ⟨rfl, hp⟩
    simp only [eX9_rest_48, eX9_rest_51, fx0, fx1, fx2, fx3, fx4, nl_int, nl_ref, nl_none, nl_ti, rz_nil, rz_int, rz_ref, rz_long, cf1, cf2, Option.toList_some, Option.toList_none, List.cons_append, List.nil_append, nI_1]
    exact ih (k + 1) σ' (by omega) (rest_St hK2 hs hp) (fun c h1 h2 => by rw [hp.1 c h1 h2, hf c h1 h2])
theorem rest_m {Q : Option Value → aW → Prop} {h w s N : Nat} {μ τ : aW} {r : Nat → Int32} {rf9 : Int32} (hN : N ≤ 60) (hh : 0 < h) (hKM : KM μ τ) (hK : KC h w s μ σ) (hk : ∀ σ', (∀ k, k < 19 → σ' 114 k = itR w μ N r k) → (∀ c, c ≠ 114 → σ' c = τ c) → aE l (d + 3) none 10 cX10_rest (some .int) Q 54 [some (.ref 109), some (.int (nI N)), some (.int rf9), some (.int (nI N))] [] σ') : ∀ m k σk, k + m = N → (∀ j, j < 19 → σk 114 j = itR w μ k r j) → (∀ c, c ≠ 114 → σk c = τ c) → aE l (d + 3) none 10 cX10_rest (some .int) Q 18 [some (.ref 109), some (.int (nI N)), some (.int rf9), some (.int (nI k))] [] σk := by
  have hw6 : w ≤ 6 := hK.1.2.2
  intro m
  induction m with
  | zero =>
    intro k σk hkN hs hf
    have hkN : k = N := by omega
    subst hkN
    have h1 : nI k ≤ nI k := (nile (by omega) (by omega)).mpr (Nat.le_refl k)
    rw [eX10_rest_18]
    simp only [eX10_rest_19, eX10_rest_20, fx0, fx1, fx2, fx3, fx4, nl_int, nl_ref, nl_none, nl_ti, rz_nil, rz_int, rz_ref, rz_long, cf1, cf2, Option.toList_some, Option.toList_none, List.cons_append, List.nil_append, h1, if_true]
    exact hk σk hs hf
  | succ m ih =>
    intro k σk hkN hs hf
    have h1 : ¬ nI N ≤ nI k := by rw [nile (by omega) (by omega)]; omega
    have e109 : σk 109 = τ 109 := hf 109 (by decide)
    have m4 : σk 109 4 = nI w := by rw [e109, hKM.1 4 (by decide)]; exact hK.1.2.1
    have m0 : ¬ σk 109 0 = 0 := by rw [e109, hKM.1 0 (by decide), hK.2.2.1.2.2.1]; exact nI_ne0 hh (by have := hK.2.2.1.1; omega)
    rw [eX10_rest_18]
    simp only [eX10_rest_19, eX10_rest_20, eX10_rest_23, eX10_rest_24, eX10_rest_27, eX10_rest_29, eX10_rest_30, eX10_rest_31, eX10_rest_32, fx0, fx1, fx2, fx3, fx4, nl_int, nl_ref, nl_none, nl_ti, rz_nil, rz_int, rz_ref, rz_long, cf1, cf2, Option.toList_some, Option.toList_none, List.cons_append, List.nil_append, h1, if_false]
    refine aC.of (m_tire m4 hw6) ?_
    simp only [eX10_rest_35, eX10_rest_36, eX10_rest_37, eX10_rest_40, eX10_rest_42, eX10_rest_43, eX10_rest_44, eX10_rest_45, fx0, fx1, fx2, fx3, fx4, nl_int, nl_ref, nl_none, nl_ti, rz_nil, rz_int, rz_ref, rz_long, cf1, cf2, Option.toList_some, Option.toList_none, List.cons_append, List.nil_append, vi19, true_and]
    refine aC.of (m_passHour (by simp only [su_at, su_ne, sr_eq, sr_ne, ne_eq, Nat.reduceEqDiff, not_false_eq_true, not_true_eq_false, if_true, if_false]; exact m0)) ?_
    simp only [eX10_rest_48, eX10_rest_51, fx0, fx1, fx2, fx3, fx4, nl_int, nl_ref, nl_none, nl_ti, rz_nil, rz_int, rz_ref, rz_long, cf1, cf2, Option.toList_some, Option.toList_none, List.cons_append, List.nil_append, nI_1]
    refine ih (k + 1) _ (by omega) (fun j hj => ?_) (fun c hc => by rw [su_ne hc, su_ne hc, su_ne hc, su_ne hc, sr_ne hc, hf c hc])
    have q12 : pre w (mtR σk 0 0) (σk 114) 12 = σk 114 12 := if_neg (by omega)
    have q18 : pre w (mtR σk 0 0) (σk 114) 18 = σk 114 18 := if_neg (by omega)
    have z : mnS σk 0 0 w = 0 := nod0 w (by omega)
    simp only [su_at, su_ne, sr_eq, sr_ne, ne_eq, Nat.reduceEqDiff, not_false_eq_true, not_true_eq_false, if_true, if_false, q12, q18, z]
    show _ = rowR w μ (itR w μ k r) j
    have e0 : σk 109 0 = μ 109 0 := by rw [e109, hKM.1 0 (by decide)]
    unfold rowR
    by_cases j1 : j < w
    · simp only [show j ≠ 18 by omega, show j ≠ 12 by omega, show j ≠ 16 by omega, show j ≠ 15 by omega, if_false, j1, if_true, pre]
      unfold mtR rT
      rw [e109, hKM.1 3 (by decide), hf 110 (by decide), hf 111 (by decide), hKM.2 110 (by decide) (by decide), hKM.2 111 (by decide) (by decide), hs j (by omega)]
    · rw [if_neg j1]
      by_cases j2 : j < 12
      · simp only [show j ≠ 18 by omega, show j ≠ 12 by omega, show j ≠ 16 by omega, show j ≠ 15 by omega, if_false, j1, j2, if_true, pre]
        exact hs j hj
      · rw [if_neg j2]
        rcases (show j = 12 ∨ j = 13 ∨ j = 14 ∨ j = 15 ∨ j = 16 ∨ j = 17 ∨ j = 18 by omega) with rfl | rfl | rfl | rfl | rfl | rfl | rfl
        · simp only [su_at, su_ne, sr_eq, sr_ne, ne_eq, Nat.reduceEqDiff, not_false_eq_true, not_true_eq_false, if_true, if_false, hs 12 (by decide)]
        · simp only [su_at, su_ne, sr_eq, sr_ne, ne_eq, Nat.reduceEqDiff, not_false_eq_true, not_true_eq_false, if_true, if_false, pre, j1, hs 13 (by decide)]
        · simp only [su_at, su_ne, sr_eq, sr_ne, ne_eq, Nat.reduceEqDiff, not_false_eq_true, not_true_eq_false, if_true, if_false, pre, j1, hs 14 (by decide)]
        · simp only [su_at, su_ne, sr_eq, sr_ne, ne_eq, Nat.reduceEqDiff, not_false_eq_true, not_true_eq_false, if_true, if_false]
        · simp only [su_at, su_ne, sr_eq, sr_ne, ne_eq, Nat.reduceEqDiff, not_false_eq_true, not_true_eq_false, if_true, if_false]
        · simp only [su_at, su_ne, sr_eq, sr_ne, ne_eq, Nat.reduceEqDiff, not_false_eq_true, not_true_eq_false, if_true, if_false, pre, j1, hs 17 (by decide)]
        · simp only [su_at, su_ne, sr_eq, sr_ne, ne_eq, Nat.reduceEqDiff, not_false_eq_true, not_true_eq_false, if_true, if_false, hs 12 (by decide), hs 18 (by decide), e0]
theorem op_rest (hI : Inv σ) (x : Int32) : Pair l (d + 30) 69 122 [.int x] σ := by
  have hI0 := hI
  obtain ⟨h, w, s, hK, ⟨hS, hR⟩, hH, hIm, hD, hE, hB, hT⟩ := hI
  have hw6 : w ≤ 6 := hK.1.2.2
  have k5 : σ 9 0 = nI h := hK.2.2.1.2.1
  have k6 : σ 109 0 = nI h := hK.2.2.1.2.2.1
  have hh6 : h ≤ 6 := hK.2.2.1.1
  have s0 : σ 15 0 = σ 114 12 := hS.2.2 0 (by decide)
  obtain ⟨n, hn, hH1, hH2⟩ := hH
  refine aC_of rfl (Nat.le_of_ble_eq_true rfl) ?_
  show aE l (d + 29) none 9 cX9_rest (some .int) _ 0 [some (.ref 0), some (.int x), none, none] [] σ
  simp only [eX9_rest_0, eX9_rest_1, eX9_rest_2, fx0, fx1, fx2, fx3, fx4, nl_int, nl_ref, nl_none, nl_ti, rz_nil, rz_int, rz_ref, rz_long, cf1, cf2, Option.toList_some, Option.toList_none, List.cons_append, List.nil_append]
  refine aC.of c_refusal ?_
  rw [k5, s0]
  have hm : ∀ (τ : aW) (P : Option Value → aW → Prop) (v u : Int32), inB x.toInt64 1 60 = v → (if v = 0 then (-1000000002 : Int32) else if τ 109 0 = 0 then -1000000003 else if τ 114 12 ≤ 90000 then 0 else -1000000004) = u → aE l (d + 29) none 10 cX10_rest (some .int) P 5 [some (.ref 109), some (.int x), none, none] [.int u] τ → aC l (d + 30) 122 [.ref 109, .int x] τ P := by
    intro τ P v u hv hu hP
    refine aC_of rfl (Nat.le_of_ble_eq_true rfl) ?_
    show aE l (d + 29) none 10 cX10_rest (some .int) _ 0 [some (.ref 109), some (.int x), none, none] [] τ
    simp only [eX10_rest_0, eX10_rest_1, eX10_rest_2, fx0, fx1, fx2, fx3, fx4, nl_int, nl_ref, nl_none, nl_ti, rz_nil, rz_int, rz_ref, rz_long, cf1, cf2, Option.toList_some, Option.toList_none, List.cons_append, List.nil_append]
    refine aC.of m_hoursRefused ?_
    rw [hv, hu]
    exact hP
  rcases rg60 x with ⟨N, hN1, hN, rfl⟩ | ⟨z1, z2⟩
  · obtain ⟨o1, o2, o3⟩ := rg601 N hN hN1
    rw [if_neg o1, if_pos o2]
    by_cases h0 : h = 0
    · subst h0
      simp only [eX9_rest_5, eX9_rest_6, eX9_rest_7, eX9_rest_8, eX9_rest_11, eX9_rest_12, fx0, fx1, fx2, fx3, fx4, nl_int, nl_ref, nl_none, nl_ti, rz_nil, rz_int, rz_ref, rz_long, cf1, cf2, Option.toList_some, Option.toList_none, List.cons_append, List.nil_append, show nI 0 ≤ 0 by decide, if_true, show ¬ (-1000000003 : Int32) = -1 by decide, if_false]
      refine hm _ _ 1 (-1000000003) o3 (by rw [if_neg (by decide), k6]; rfl) ?_
      simp only [eX10_rest_5, eX10_rest_6, eX10_rest_7, eX10_rest_10, eX10_rest_11, fx0, fx1, fx2, fx3, fx4, nl_int, nl_ref, nl_none, nl_ti, rz_nil, rz_int, rz_ref, rz_long, cf1, cf2, Option.toList_some, Option.toList_none, List.cons_append, List.nil_append, show ¬ (-1000000003 : Int32) = 0 by decide, if_false]
      exact ⟨⟨_, rfl, rfl⟩, hI0⟩
    · have hnle : ¬ nI h ≤ 0 := nI_nle (by omega) (by omega)
      have hne0 : ¬ nI h = 0 := nI_ne0 (by omega) (by omega)
      rw [if_neg hnle]
      by_cases hf : σ 114 12 ≤ 90000
      · rw [if_pos hf]
        simp only [eX9_rest_5, eX9_rest_6, eX9_rest_7, eX9_rest_8, eX9_rest_11, eX9_rest_12, eX9_rest_13, eX9_rest_14, eX9_rest_17, eX9_rest_18, eX9_rest_21, fx0, fx1, fx2, fx3, fx4, nl_int, nl_ref, nl_none, nl_ti, rz_nil, rz_int, rz_ref, rz_long, cf1, cf2, Option.toList_some, Option.toList_none, List.cons_append, List.nil_append, if_true]
        refine (c_remC hH1 hS hw6).mono ?_
        rintro ro τ ⟨rfl, hist, fr⟩
        simp only [eX9_rest_24, eX9_rest_25, fx0, fx1, fx2, fx3, fx4, nl_int, nl_ref, nl_none, nl_ti, rz_nil, rz_int, rz_ref, rz_long, cf1, cf2, Option.toList_some, Option.toList_none, List.cons_append, List.nil_append]
        have hKτ : KC h w s σ τ := KC.congr hK (fun c h1 h2 => fr c (by omega))
        have hSτ : StR w τ 15 (σ 114) := hS.same (fr 15 (by decide)) (fr 16 (by decide)) (fr 17 (by decide))
        refine rest_c (d := d + 26) (h := h) (w := w) (s := s) (N := N) (μ := σ) (τ := τ) (r := σ 114) hN (by omega) hKτ ?_ N 0 τ (by omega) hSτ (fun _ _ _ => rfl)
        intro σ1 st1 frl
        simp only [eX9_rest_54, eX9_rest_55, eX9_rest_58, eX9_rest_61, fx0, fx1, fx2, fx3, fx4, nl_int, nl_ref, nl_none, nl_ti, rz_nil, rz_int, rz_ref, rz_long, cf1, cf2, Option.toList_some, Option.toList_none, List.cons_append, List.nil_append]
        have fr1 : ∀ c, (c < 15 ∨ 80 ≤ c) → c ≠ 90 → σ1 c = σ c := fun c h1 h2 => by rw [frl c (by omega) (by omega), fr c (by omega)]
        have e109 := fr1 109 (by decide) (by decide)
        have e114 := fr1 114 (by decide) (by decide)
        refine hm _ _ 1 0 o3 (by rw [if_neg (by decide), e109, k6, if_neg hne0, e114, if_pos hf]) ?_
        simp only [eX10_rest_5, eX10_rest_6, eX10_rest_7, eX10_rest_10, eX10_rest_11, eX10_rest_12, eX10_rest_13, fx0, fx1, fx2, fx3, fx4, nl_int, nl_ref, nl_none, nl_ti, rz_nil, rz_int, rz_ref, rz_long, cf1, cf2, Option.toList_some, Option.toList_none, List.cons_append, List.nil_append, if_true]
        refine (m_remember (n := n) (by rw [e109]; exact hn) hH1.1).mono ?_
        rintro ro τ2 ⟨rfl, hr⟩
        simp only [eX10_rest_16, eX10_rest_17, fx0, fx1, fx2, fx3, fx4, nl_int, nl_ref, nl_none, nl_ti, rz_nil, rz_int, rz_ref, rz_long, cf1, cf2, Option.toList_some, Option.toList_none, List.cons_append, List.nil_append]
        have t114 : τ2 114 = σ 114 := by rw [hr.1 114 (by decide) (by decide), e114]
        have hKM : KM σ τ2 := ⟨fun k hk => by rw [hr.2.1 k (by omega), e109], fun c h1 h2 => by rw [hr.1 c (by omega) (by omega), fr1 c (by omega) (by omega)]⟩
        refine rest_m (σ := σ) (d := d + 26) (h := h) (w := w) (s := s) (N := N) (μ := σ) (τ := τ2) (r := σ 114) hN (by omega) hKM hK ?_ N 0 τ2 (by omega) (fun j _ => by rw [t114]; rfl) (fun _ _ => rfl)
        intro σ2 row2 fr2
        simp only [eX10_rest_54, eX10_rest_55, eX10_rest_58, eX10_rest_60, eX10_rest_61, fx0, fx1, fx2, fx3, fx4, nl_int, nl_ref, nl_none, nl_ti, rz_nil, rz_int, rz_ref, rz_long, cf1, cf2, Option.toList_some, Option.toList_none, List.cons_append, List.nil_append, vi19, true_and]
        refine ⟨⟨_, rfl, by rw [row2 12 (by decide), ← st1.2.2 0 (by decide)]⟩, ?_⟩
        obtain ⟨R1, ⟨hh, R2, R3, R4⟩, R5⟩ := hR
        have hh9 : hh ≤ 90000 := by
          rw [R3, show (90000 : Int32) = nI 90000 from rfl, nile (by omega) (by omega)] at hf
          exact hf
        have okR2 : RokB 90060 w (itR w σ N (σ 114)) := by
          obtain ⟨a1, ⟨h9, a2, a3, a4⟩, a5⟩ := itR_ok (b := 90000) hK ⟨R1, ⟨hh, hh9, R3, R4⟩, R5⟩ N (by omega)
          exact ⟨a1, ⟨h9, by omega, a3, a4⟩, a5⟩
        refine fin_do hK ⟨R1, ⟨hh, R2, R3, R4⟩, R5⟩ hn hH2 hIm hE hB hT (hist.congr (fun c h1 h2 => frl c (by omega) (by omega)) hw6 (fun _ _ _ _ => rfl)) st1 fr1 hr row2 (fun c h1 h2 => fr2 c h1) (fun k hk => by rw [fr2 109 (by decide)]) okR2 (hD.congr ?_ ?_)
        · rw [fr2 90 (by decide), hr.1 90 (by decide) (by decide), frl 90 (by decide) (by decide), fr 90 (by decide)]
        · rw [fr2 109 (by decide), hr.2.1 11 (by decide), e109]
      · rw [if_neg hf]
        simp only [eX9_rest_5, eX9_rest_6, eX9_rest_7, eX9_rest_8, eX9_rest_11, eX9_rest_12, fx0, fx1, fx2, fx3, fx4, nl_int, nl_ref, nl_none, nl_ti, rz_nil, rz_int, rz_ref, rz_long, cf1, cf2, Option.toList_some, Option.toList_none, List.cons_append, List.nil_append, show ¬ (-1000000004 : Int32) = -1 by decide, if_false]
        refine hm _ _ 1 (-1000000004) o3 (by rw [if_neg (by decide), k6, if_neg hne0, if_neg hf]) ?_
        simp only [eX10_rest_5, eX10_rest_6, eX10_rest_7, eX10_rest_10, eX10_rest_11, fx0, fx1, fx2, fx3, fx4, nl_int, nl_ref, nl_none, nl_ti, rz_nil, rz_int, rz_ref, rz_long, cf1, cf2, Option.toList_some, Option.toList_none, List.cons_append, List.nil_append, show ¬ (-1000000004 : Int32) = 0 by decide, if_false]
        exact ⟨⟨_, rfl, rfl⟩, hI0⟩
  · rw [z1]
    simp only [eX9_rest_5, eX9_rest_6, eX9_rest_7, eX9_rest_8, eX9_rest_11, eX9_rest_12, fx0, fx1, fx2, fx3, fx4, nl_int, nl_ref, nl_none, nl_ti, rz_nil, rz_int, rz_ref, rz_long, cf1, cf2, Option.toList_some, Option.toList_none, List.cons_append, List.nil_append, show ¬ (-1000000002 : Int32) = -1 by decide, if_false]
    refine hm _ _ 0 (-1000000002) z2 rfl ?_
    simp only [eX10_rest_5, eX10_rest_6, eX10_rest_7, eX10_rest_10, eX10_rest_11, fx0, fx1, fx2, fx3, fx4, nl_int, nl_ref, nl_none, nl_ti, rz_nil, rz_int, rz_ref, rz_long, cf1, cf2, Option.toList_some, Option.toList_none, List.cons_append, List.nil_append, show ¬ (-1000000002 : Int32) = 0 by decide, if_false]
    exact ⟨⟨_, rfl, rfl⟩, hI0⟩
end O7
