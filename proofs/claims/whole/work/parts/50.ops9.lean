/-! share, paid, blink, nights -/
def lSm (f : Nat → Int32) : Nat → Int64
  | 0 => 0
  | n + 1 => lSm f n + (f n).toInt64
def iS (f : Nat → Int32) : Nat → Int32
  | 0 => 0
  | n + 1 => iS f n + f n
theorem sum_eq {f g : Nat → Int32} (hfg : ∀ q, q < 6 → f q = g q) (hb : ∀ q, q < 6 → bd 90060 (f q)) : ∀ n, n ≤ 6 → ∃ S, S ≤ n * 90060 ∧ lSm f n = lN S ∧ iS g n = nI S := by
  intro n
  induction n with
  | zero => exact fun _ => ⟨0, by omega, rfl, rfl⟩
  | succ n ih =>
    intro hn
    obtain ⟨S, h1, h2, h3⟩ := ih (by omega)
    obtain ⟨a, ha, e⟩ := hb n (by omega)
    refine ⟨S + a, by omega, ?_, ?_⟩
    · unfold lSm
      rw [h2, e, nI_l (by omega), lN_add]
    · unfold iS
      rw [h3, ← hfg n (by omega), e, nI_add]
theorem iS_tail {g : Nat → Int32} {w : Nat} (hw : w ≤ 6) (hz : ∀ q, w ≤ q → q < 6 → g q = 0) : ∀ n, w + n ≤ 6 → iS g (w + n) = iS g w := by
  intro n
  induction n with
  | zero => exact fun _ => rfl
  | succ n ih =>
    intro hn
    show iS g (w + n) + g (w + n) = _
    rw [ih (by omega), hz _ (by omega) (by omega), Int32.add_zero]
def pR (whole aw9 : Int32) (all : Int64) : Int32 := if 0 < all then (whole.toInt64 * aw9.toInt64 / all).toInt32 else 0
def odd9 (b : Int32) : Nat → Int64
  | 0 => 1000000000
  | n + 1 => odd9 b n * (100 - b).toInt64 / 100
def ngt (H mo lim : Int32) : Nat → Nat → Int32 → Int32
  | 0, _, _ => -1
  | m + 1, k, t => if mn 199 (t + mo) ≤ lim then ngt H mo lim m (k + 1) (mn 199 (t + mo)) else nI k / H
theorem aE_mono {l : Launch} {d : Nat} {sc : Option (Nat × (Nat → Int32))} {o : Nat} {cc : ByteArray} {ty : Option FieldType} {Q Q' : Option Value → aW → Prop} {pc : Nat} {ls : List (Option Value)} {st : List Value} {σ : aW} (h : aE l d sc o cc ty Q pc ls st σ) (hq : ∀ r σ', Q r σ' → Q' r σ') : aE l d sc o cc ty Q' pc ls st σ := by
  obtain ⟨n, h⟩ := h
  refine ⟨n, ?_⟩
  revert pc ls st σ
  induction n with
  | zero => exact fun h => h
  | succ n ih =>
    intro pc ls st σ h
    obtain ⟨i, len, h1, h2, h3⟩ := h
    refine ⟨i, len, h1, h2, ?_⟩
    revert h3
    generalize stepA sc o ty i pc ls st σ = r
    rcases r with _ | ⟨q⟩ | ⟨v⟩ | ⟨q⟩
    · exact fun h => h
    · exact fun h => ih h
    · exact fun h => hq _ _ h
    · rintro ⟨r, σ', a, b⟩
      exact ⟨r, σ', a, ih b⟩
section O9
variable {l : Launch} {d : Nat} {σ : aW}
theorem part_loop {Q : Option Value → aW → Prop} {p whole : Int32} (hk : aE l d none 7 cX7_partOf (some .int) Q 41 [some (.ref 15), some (.int p), some (.int whole), some (.long (lSm (σ 17) 6)), none, some (.int (nI 6))] [] σ) : ∀ n k, k + n = 6 → aE l d none 7 cX7_partOf (some .int) Q 17 [some (.ref 15), some (.int p), some (.int whole), some (.long (lSm (σ 17) k)), none, some (.int (nI k))] [] σ := by
  intro n
  induction n with
  | zero =>
    intro k hkn
    have hkn : k = 6 := by omega
    subst hkn
    rw [eX7_partOf_17]
    simp only [eX7_partOf_19, eX7_partOf_21, fx0, fx1, fx2, fx3, fx4, nl_int, nl_ref, nl_none, nl_ti, rz_nil, rz_int, rz_ref, rz_long, cf1, cf2, Option.toList_some, Option.toList_none, List.cons_append, List.nil_append, show (6 : Int32) ≤ nI 6 by decide, if_true]
    exact hk
  | succ n ih =>
    intro k hkn
    have h2 : ¬ (6 : Int32) ≤ nI k := by rw [show (6 : Int32) = nI 6 from rfl, nile (by omega) (by omega)]; omega
    have hin : vp_in (nI k) 6 := vin (by omega) (by omega)
    have hcl : (nI k).toNatClampNeg = k := nic (by omega)
    rw [eX7_partOf_17]
    simp only [eX7_partOf_19, eX7_partOf_21, eX7_partOf_24, eX7_partOf_25, eX7_partOf_26, eX7_partOf_29, eX7_partOf_31, eX7_partOf_32, eX7_partOf_33, eX7_partOf_34, eX7_partOf_35, eX7_partOf_38, fx0, fx1, fx2, fx3, fx4, nl_int, nl_ref, nl_none, nl_ti, rz_nil, rz_int, rz_ref, rz_long, cf1, cf2, Option.toList_some, Option.toList_none, List.cons_append, List.nil_append, h2, if_false, hin, hcl, nI_1, true_and]
    exact ih (k + 1) (by omega)
theorem c_partOf {p : Nat} {whole : Int32} (hp : p < 6) : Sem l (d + 1) 49 [.ref 15, .int (nI p), .int whole] σ (some (.int (pR whole (σ 17 p) (lSm (σ 17) 6)))) σ := by
  refine Sem_of rfl (Nat.le_of_ble_eq_true rfl) ?_
  show aE l d none 7 cX7_partOf (some .int) _ 0 [some (.ref 15), some (.int (nI p)), some (.int whole), none, none, none] [] σ
  have h0 : ¬ nI p < 0 := nI_pos (by omega)
  have h6 : nI p < 6 := by rw [show (6 : Int32) = nI 6 from rfl, nilt (by omega) (by omega)]; exact hp
  have hin : vp_in (nI p) 6 := vin (by omega) (by omega)
  have hcl : (nI p).toNatClampNeg = p := nic (by omega)
  simp only [eX7_partOf_0, eX7_partOf_1, eX7_partOf_4, eX7_partOf_5, eX7_partOf_7, eX7_partOf_10, eX7_partOf_11, eX7_partOf_12, eX7_partOf_13, eX7_partOf_14, eX7_partOf_15, fx0, fx1, fx2, fx3, fx4, nl_int, nl_ref, nl_none, nl_ti, rz_nil, rz_int, rz_ref, rz_long, cf1, cf2, Option.toList_some, Option.toList_none, List.cons_append, List.nil_append, h0, h6, if_true, if_false]
  refine part_loop ?_ 6 0 (by omega)
  simp only [eX7_partOf_41, eX7_partOf_42, eX7_partOf_43, eX7_partOf_44, eX7_partOf_47, eX7_partOf_48, eX7_partOf_49, eX7_partOf_50, eX7_partOf_51, eX7_partOf_52, eX7_partOf_55, eX7_partOf_56, eX7_partOf_57, eX7_partOf_58, eX7_partOf_59, eX7_partOf_60, eX7_partOf_61, eX7_partOf_62, fx0, fx1, fx2, fx3, fx4, nl_int, nl_ref, nl_none, nl_ti, rz_nil, rz_int, rz_ref, rz_long, cf1, cf2, Option.toList_some, Option.toList_none, List.cons_append, List.nil_append, lgc_gt, hin, hcl, true_and]
  unfold pR
  by_cases hz : 0 < lSm (σ 17) 6
  · have hne : ¬ lSm (σ 17) 6 = 0 := fun e => by rw [e] at hz; exact absurd hz (by decide)
    simp only [hz, if_true]
    exact ⟨hne, trivial, trivial⟩
  · simp only [hz, if_false, true_or, or_true, true_and, and_true, and_self]
theorem all_loop {w : Nat} (hw : σ 109 4 = nI w) (hw6 : w ≤ 6) : ∀ n k, k + n = w → aE l d none 10 cX10_allHours (some .int) (fun r' σ'' => r' = some (.int (iS (fun q => σ 114 (6 + q)) w)) ∧ σ'' = σ) 4 [some (.ref 109), some (.int (iS (fun q => σ 114 (6 + q)) k)), some (.int (nI k))] [] σ := by
  intro n
  induction n with
  | zero =>
    intro k hkn
    have hkn : k = w := by omega
    subst hkn
    have h1 : nI k ≤ nI k := (nile (by omega) (by omega)).mpr (Nat.le_refl k)
    simp only [eX10_allHours_4, eX10_allHours_5, eX10_allHours_6, eX10_allHours_9, eX10_allHours_30, eX10_allHours_31, fx0, fx1, fx2, fx3, fx4, nl_int, nl_ref, nl_none, nl_ti, rz_nil, rz_int, rz_ref, rz_long, cf1, cf2, Option.toList_some, Option.toList_none, List.cons_append, List.nil_append, hw, h1, if_true, true_or, or_true, true_and, and_true, and_self]
  | succ n ih =>
    intro k hkn
    have h1 : ¬ nI w ≤ nI k := by rw [nile (by omega) (by omega)]; omega
    have h6 : (6 : Int32) + nI k = nI (6 + k) := nI_add 6 k
    have hin : vp_in (nI (6 + k)) 19 := vin (by omega) (by omega)
    have hcl : (nI (6 + k)).toNatClampNeg = 6 + k := nic (by omega)
    rw [eX10_allHours_4]
    simp only [eX10_allHours_5, eX10_allHours_6, eX10_allHours_9, eX10_allHours_12, eX10_allHours_13, eX10_allHours_14, eX10_allHours_17, eX10_allHours_19, eX10_allHours_20, eX10_allHours_21, eX10_allHours_22, eX10_allHours_23, eX10_allHours_24, eX10_allHours_27, fx0, fx1, fx2, fx3, fx4, nl_int, nl_ref, nl_none, nl_ti, rz_nil, rz_int, rz_ref, rz_long, cf1, cf2, Option.toList_some, Option.toList_none, List.cons_append, List.nil_append, hw, h1, if_false, h6, hin, hcl, nI_1, true_and]
    exact ih (k + 1) (by omega)
theorem m_allHours {w : Nat} (hw : σ 109 4 = nI w) (hw6 : w ≤ 6) : Sem l (d + 1) 138 [.ref 109] σ (some (.int (iS (fun q => σ 114 (6 + q)) w))) σ := by
  refine Sem_of rfl (Nat.le_of_ble_eq_true rfl) ?_
  show aE l d none 10 cX10_allHours (some .int) _ 0 [some (.ref 109), none, none] [] σ
  simp only [eX10_allHours_0, eX10_allHours_1, eX10_allHours_2, eX10_allHours_3, fx0, fx1, fx2, fx3, fx4, nl_int, nl_ref, nl_none, nl_ti, rz_nil, rz_int, rz_ref, rz_long, cf1, cf2, Option.toList_some, Option.toList_none, List.cons_append, List.nil_append]
  exact all_loop hw hw6 w 0 (by omega)
theorem share_sum {h w s : Nat} (hK : KR h w s σ) (hS : StR w σ 15 (σ 114)) (hR : Rok w (σ 114)) : ∃ S, S ≤ 540360 ∧ lSm (σ 17) 6 = lN S ∧ iS (fun q => σ 114 (6 + q)) w = nI S := by
  have hw6 : w ≤ 6 := hK.1.2.2
  obtain ⟨R1, ⟨hh, R2, R3, R4⟩, R5⟩ := hR
  obtain ⟨S, h1, h2, h3⟩ := sum_eq (f := σ 17) (g := fun q => σ 114 (6 + q)) (fun q hq => hS.2.1 q hq) (fun q hq => by
    rw [show σ 17 q = σ 114 (6 + q) from hS.2.1 q hq]
    obtain ⟨n, hn, e⟩ := R4 q hq
    exact ⟨n, by omega, e⟩) 6 (by decide)
  refine ⟨S, by omega, h2, ?_⟩
  have := iS_tail (g := fun q => σ 114 (6 + q)) hw6 (fun q h1 h2 => R5 q h1 h2) (6 - w) (by omega)
  rw [show w + (6 - w) = 6 by omega] at this
  rw [← this, h3]
theorem op_share (hI : Inv σ) (x : Int32) : Pair l (d + 30) 77 139 [.int x] σ := by
  have hI0 := hI
  obtain ⟨h, w, s, hK, ⟨hS, hR⟩, hH, hIm, hD, hE, hB, hT⟩ := hI
  have hw6 : w ≤ 6 := hK.1.2.2
  have k1 : σ 9 4 = nI w := hK.1.1
  have k2 : σ 109 4 = nI w := hK.1.2.1
  refine aC_of rfl (Nat.le_of_ble_eq_true rfl) ?_
  show aE l (d + 29) none 9 cX9_share (some .int) _ 0 [some (.ref 0), some (.int x)] [] σ
  simp only [eX9_share_0, eX9_share_1, eX9_share_4, eX9_share_5, fx0, fx1, fx2, fx3, fx4, nl_int, nl_ref, nl_none, nl_ti, rz_nil, rz_int, rz_ref, rz_long, cf1, cf2, Option.toList_some, Option.toList_none, List.cons_append, List.nil_append]
  refine aC.of (c_hasWatcher (Or.inr rfl)) ?_
  rw [k1]
  have hm : ∀ (P : Option Value → aW → Prop) (v : Int32), inB x.toInt64 0 (nI w - 1).toInt64 = v → aE l (d + 29) none 10 cX10_share (some .int) P 5 [some (.ref 109), some (.int x), none] [.int v] σ → aC l (d + 30) 139 [.ref 109, .int x] σ P := by
    intro P v hv hP
    refine aC_of rfl (Nat.le_of_ble_eq_true rfl) ?_
    show aE l (d + 29) none 10 cX10_share (some .int) _ 0 [some (.ref 109), some (.int x), none] [] σ
    simp only [eX10_share_0, eX10_share_1, eX10_share_2, fx0, fx1, fx2, fx3, fx4, nl_int, nl_ref, nl_none, nl_ti, rz_nil, rz_int, rz_ref, rz_long, cf1, cf2, Option.toList_some, Option.toList_none, List.cons_append, List.nil_append]
    refine aC.of m_isWatcher ?_
    rw [k2, hv]
    exact hP
  rcases wat x hw6 with ⟨p, hp, rfl⟩ | ⟨z1, z2⟩
  · obtain ⟨o1, o2⟩ := wat1 hp hw6
    rw [o1]
    simp only [eX9_share_8, eX9_share_11, eX9_share_13, eX9_share_14, eX9_share_15, eX9_share_18, eX9_share_19, eX9_share_22, fx0, fx1, fx2, fx3, fx4, nl_int, nl_ref, nl_none, nl_ti, rz_nil, rz_int, rz_ref, rz_long, cf1, cf2, Option.toList_some, Option.toList_none, List.cons_append, List.nil_append, show ¬ (1 : Int32) = 0 by decide, if_false]
    refine aC.of (c_partOf (by omega)) ?_
    simp only [eX9_share_25, fx0, fx1, fx2, fx3, fx4, nl_int, nl_ref, nl_none, nl_ti, rz_nil, rz_int, rz_ref, rz_long, cf1, cf2, Option.toList_some, Option.toList_none, List.cons_append, List.nil_append]
    refine hm _ 1 o2 ?_
    simp only [eX10_share_5, eX10_share_8, eX10_share_10, eX10_share_11, eX10_share_12, fx0, fx1, fx2, fx3, fx4, nl_int, nl_ref, nl_none, nl_ti, rz_nil, rz_int, rz_ref, rz_long, cf1, cf2, Option.toList_some, Option.toList_none, List.cons_append, List.nil_append, show ¬ (1 : Int32) = 0 by decide, if_false]
    refine aC.of (m_allHours k2 hw6) ?_
    obtain ⟨S, hS1, hS2, hS3⟩ := share_sum hK hS hR
    have h6 : (6 : Int32) + nI p = nI (6 + p) := nI_add 6 p
    have hin : vp_in (nI (6 + p)) 19 := vin (by omega) (by omega)
    have hcl : (nI (6 + p)).toNatClampNeg = 6 + p := nic (by omega)
    rw [hS2, hS3, show σ 17 p = σ 114 (6 + p) from hS.2.1 p (by omega)]
    unfold pR
    by_cases hz : S = 0
    · subst hz
      simp only [eX10_share_15, eX10_share_16, eX10_share_17, eX10_share_20, eX10_share_21, eX10_share_24, eX10_share_25, eX10_share_28, eX10_share_30, eX10_share_31, eX10_share_32, eX10_share_33, eX10_share_34, eX10_share_37, eX10_share_38, eX10_share_39, eX10_share_40, eX10_share_41, eX10_share_42, fx0, fx1, fx2, fx3, fx4, nl_int, nl_ref, nl_none, nl_ti, rz_nil, rz_int, rz_ref, rz_long, cf1, cf2, Option.toList_some, Option.toList_none, List.cons_append, List.nil_append, show nI 0 = 0 from rfl, show ¬ (0 : Int64) < lN 0 by decide, if_true, if_false]
      exact ⟨⟨_, rfl, rfl⟩, hI0⟩
    · have e1 : ¬ nI S = 0 := nI_ne0 (by omega) (by omega)
      have e2 : (0 : Int64) < lN S := by rw [show (0 : Int64) = lN 0 from rfl, lN_lt (by omega) (by omega)]; omega
      have e3 : ¬ lN S = 0 := by rw [show (0 : Int64) = lN 0 from rfl, lN_eq (by omega) (by omega)]; exact hz
      have e4 : (nI S).toInt64 = lN S := nI_l (by omega)
      simp only [eX10_share_15, eX10_share_16, eX10_share_17, eX10_share_20, eX10_share_21, eX10_share_24, eX10_share_25, eX10_share_28, eX10_share_30, eX10_share_31, eX10_share_32, eX10_share_33, eX10_share_34, eX10_share_37, eX10_share_38, eX10_share_39, eX10_share_40, eX10_share_41, eX10_share_42, fx0, fx1, fx2, fx3, fx4, nl_int, nl_ref, nl_none, nl_ti, rz_nil, rz_int, rz_ref, rz_long, cf1, cf2, Option.toList_some, Option.toList_none, List.cons_append, List.nil_append, e1, e2, if_true, if_false, h6, hin, hcl, e4, true_and]
      refine ⟨e3, ⟨_, rfl, ?_⟩, hI0⟩
      rw [Int64.mul_comm, show (1000 : Int32).toInt64 = 1000 by decide]
  · rw [z1]
    simp only [eX9_share_8, eX9_share_11, eX9_share_13, fx0, fx1, fx2, fx3, fx4, nl_int, nl_ref, nl_none, nl_ti, rz_nil, rz_int, rz_ref, rz_long, cf1, cf2, Option.toList_some, Option.toList_none, List.cons_append, List.nil_append, if_true]
    refine hm _ 0 z2 ?_
    simp only [eX10_share_5, eX10_share_8, eX10_share_10, fx0, fx1, fx2, fx3, fx4, nl_int, nl_ref, nl_none, nl_ti, rz_nil, rz_int, rz_ref, rz_long, cf1, cf2, Option.toList_some, Option.toList_none, List.cons_append, List.nil_append, if_true]
    exact ⟨⟨_, rfl, rfl⟩, hI0⟩
theorem op_paid (hI : Inv σ) (x : Int32) : Pair l (d + 30) 78 140 [.int x] σ := by
  have hI0 := hI
  obtain ⟨h, w, s, hK, ⟨hS, hR⟩, hH, hIm, hD, hE, hB, hT⟩ := hI
  have hw6 : w ≤ 6 := hK.1.2.2
  have k1 : σ 9 4 = nI w := hK.1.1
  have k2 : σ 109 4 = nI w := hK.1.2.1
  refine aC_of rfl (Nat.le_of_ble_eq_true rfl) ?_
  show aE l (d + 29) none 9 cX9_paid (some .int) _ 0 [some (.ref 0), some (.int x)] [] σ
  simp only [eX9_paid_0, eX9_paid_1, eX9_paid_4, eX9_paid_5, fx0, fx1, fx2, fx3, fx4, nl_int, nl_ref, nl_none, nl_ti, rz_nil, rz_int, rz_ref, rz_long, cf1, cf2, Option.toList_some, Option.toList_none, List.cons_append, List.nil_append]
  refine aC.of (c_hasWatcher (Or.inr rfl)) ?_
  rw [k1]
  have hm : ∀ (P : Option Value → aW → Prop) (v : Int32), inB x.toInt64 0 (nI w - 1).toInt64 = v → aE l (d + 29) none 10 cX10_paid (some .int) P 5 [some (.ref 109), some (.int x), none, none, none] [.int v] σ → aC l (d + 30) 140 [.ref 109, .int x] σ P := by
    intro P v hv hP
    refine aC_of rfl (Nat.le_of_ble_eq_true rfl) ?_
    show aE l (d + 29) none 10 cX10_paid (some .int) _ 0 [some (.ref 109), some (.int x), none, none, none] [] σ
    simp only [eX10_paid_0, eX10_paid_1, eX10_paid_2, fx0, fx1, fx2, fx3, fx4, nl_int, nl_ref, nl_none, nl_ti, rz_nil, rz_int, rz_ref, rz_long, cf1, cf2, Option.toList_some, Option.toList_none, List.cons_append, List.nil_append]
    refine aC.of m_isWatcher ?_
    rw [k2, hv]
    exact hP
  rcases wat x hw6 with ⟨p, hp, rfl⟩ | ⟨z1, z2⟩
  · obtain ⟨o1, o2⟩ := wat1 hp hw6
    have s1 : σ 15 1 = σ 114 13 := hS.2.2 1 (by decide)
    have s2 : σ 15 2 = σ 114 14 := hS.2.2 2 (by decide)
    rw [o1]
    simp only [eX9_paid_8, eX9_paid_11, eX9_paid_13, eX9_paid_14, eX9_paid_15, eX9_paid_18, eX9_paid_19, eX9_paid_20, eX9_paid_21, eX9_paid_24, eX9_paid_27, eX9_paid_28, eX9_paid_31, eX9_paid_34, eX9_paid_35, eX9_paid_38, fx0, fx1, fx2, fx3, fx4, nl_int, nl_ref, nl_none, nl_ti, rz_nil, rz_int, rz_ref, rz_long, cf1, cf2, Option.toList_some, Option.toList_none, List.cons_append, List.nil_append, show ¬ (1 : Int32) = 0 by decide, if_false, s1, s2]
    refine aC.of (c_partOf (by omega)) ?_
    simp only [eX9_paid_41, fx0, fx1, fx2, fx3, fx4, nl_int, nl_ref, nl_none, nl_ti, rz_nil, rz_int, rz_ref, rz_long, cf1, cf2, Option.toList_some, Option.toList_none, List.cons_append, List.nil_append]
    refine hm _ 1 o2 ?_
    simp only [eX10_paid_5, eX10_paid_8, eX10_paid_10, eX10_paid_11, eX10_paid_12, fx0, fx1, fx2, fx3, fx4, nl_int, nl_ref, nl_none, nl_ti, rz_nil, rz_int, rz_ref, rz_long, cf1, cf2, Option.toList_some, Option.toList_none, List.cons_append, List.nil_append, show ¬ (1 : Int32) = 0 by decide, if_false]
    refine aC.of (m_allHours k2 hw6) ?_
    simp only [eX10_paid_15, eX10_paid_16, eX10_paid_17, eX10_paid_20, eX10_paid_22, eX10_paid_23, eX10_paid_24, eX10_paid_27, eX10_paid_29, eX10_paid_30, eX10_paid_31, eX10_paid_32, fx0, fx1, fx2, fx3, fx4, nl_int, nl_ref, nl_none, nl_ti, rz_nil, rz_int, rz_ref, rz_long, cf1, cf2, Option.toList_some, Option.toList_none, List.cons_append, List.nil_append, vi19, true_and]
    refine aC.of m_atLeast ?_
    obtain ⟨S, hS1, hS2, hS3⟩ := share_sum hK hS hR
    have h6 : (6 : Int32) + nI p = nI (6 + p) := nI_add 6 p
    have hin : vp_in (nI (6 + p)) 19 := vin (by omega) (by omega)
    have hcl : (nI (6 + p)).toNatClampNeg = 6 + p := nic (by omega)
    rw [hS2, hS3, show σ 17 p = σ 114 (6 + p) from hS.2.1 p (by omega)]
    unfold pR
    by_cases hz : S = 0
    · subst hz
      simp only [eX10_paid_35, eX10_paid_36, eX10_paid_37, eX10_paid_38, eX10_paid_41, eX10_paid_42, eX10_paid_45, eX10_paid_46, eX10_paid_47, eX10_paid_50, eX10_paid_52, eX10_paid_53, eX10_paid_54, eX10_paid_55, eX10_paid_56, eX10_paid_57, eX10_paid_58, eX10_paid_59, eX10_paid_60, eX10_paid_61, fx0, fx1, fx2, fx3, fx4, nl_int, nl_ref, nl_none, nl_ti, rz_nil, rz_int, rz_ref, rz_long, cf1, cf2, Option.toList_some, Option.toList_none, List.cons_append, List.nil_append, show nI 0 = 0 from rfl, show ¬ (0 : Int64) < lN 0 by decide, if_true, if_false]
      exact ⟨⟨_, rfl, rfl⟩, hI0⟩
    · have e1 : ¬ nI S = 0 := nI_ne0 (by omega) (by omega)
      have e2 : (0 : Int64) < lN S := by rw [show (0 : Int64) = lN 0 from rfl, lN_lt (by omega) (by omega)]; omega
      have e3 : ¬ lN S = 0 := by rw [show (0 : Int64) = lN 0 from rfl, lN_eq (by omega) (by omega)]; exact hz
      have e4 : (nI S).toInt64 = lN S := nI_l (by omega)
      simp only [eX10_paid_35, eX10_paid_36, eX10_paid_37, eX10_paid_38, eX10_paid_41, eX10_paid_42, eX10_paid_45, eX10_paid_46, eX10_paid_47, eX10_paid_50, eX10_paid_52, eX10_paid_53, eX10_paid_54, eX10_paid_55, eX10_paid_56, eX10_paid_57, eX10_paid_58, eX10_paid_59, eX10_paid_60, eX10_paid_61, fx0, fx1, fx2, fx3, fx4, nl_int, nl_ref, nl_none, nl_ti, rz_nil, rz_int, rz_ref, rz_long, cf1, cf2, Option.toList_some, Option.toList_none, List.cons_append, List.nil_append, e1, e2, if_true, if_false, h6, hin, hcl, e4, true_and]
      exact ⟨e3, ⟨_, rfl, rfl⟩, hI0⟩
  · rw [z1]
    simp only [eX9_paid_8, eX9_paid_11, eX9_paid_13, fx0, fx1, fx2, fx3, fx4, nl_int, nl_ref, nl_none, nl_ti, rz_nil, rz_int, rz_ref, rz_long, cf1, cf2, Option.toList_some, Option.toList_none, List.cons_append, List.nil_append, if_true]
    refine hm _ 0 z2 ?_
    simp only [eX10_paid_5, eX10_paid_8, eX10_paid_10, fx0, fx1, fx2, fx3, fx4, nl_int, nl_ref, nl_none, nl_ti, rz_nil, rz_int, rz_ref, rz_long, cf1, cf2, Option.toList_some, Option.toList_none, List.cons_append, List.nil_append, if_true]
    exact ⟨⟨_, rfl, rfl⟩, hI0⟩
theorem blink_c {Q : Option Value → aW → Prop} {p n : Nat} {q b : Int32} (hn : n ≤ 60) (hk : aE l d none 9 cX9_blink (some .int) Q 100 [some (.ref 0), some (.int (nI p)), some (.int (nI n)), some (.int q), some (.int b), some (.long (odd9 b n)), none, some (.int (nI n))] [] σ) : ∀ m k, k + m = n → aE l d none 9 cX9_blink (some .int) Q 66 [some (.ref 0), some (.int (nI p)), some (.int (nI n)), some (.int q), some (.int b), some (.long (odd9 b k)), none, some (.int (nI k))] [] σ := by
  intro m
  induction m with
  | zero =>
    intro k hkn
    have hkn : k = n := by omega
    subst hkn
    have h1 : nI k ≤ nI k := (nile (by omega) (by omega)).mpr (Nat.le_refl k)
    rw [eX9_blink_66]
    simp only [eX9_blink_68, eX9_blink_69, fx0, fx1, fx2, fx3, fx4, nl_int, nl_ref, nl_none, nl_ti, rz_nil, rz_int, rz_ref, rz_long, cf1, cf2, Option.toList_some, Option.toList_none, List.cons_append, List.nil_append, h1, if_true]
    exact hk
  | succ m ih =>
    intro k hkn
    have h1 : ¬ nI n ≤ nI k := by rw [nile (by omega) (by omega)]; omega
    have h2 : ¬ (60 : Int32) ≤ nI k := by rw [show (60 : Int32) = nI 60 from rfl, nile (by omega) (by omega)]; omega
    rw [eX9_blink_66]
    simp only [eX9_blink_68, eX9_blink_69, eX9_blink_72, eX9_blink_74, eX9_blink_76, eX9_blink_79, eX9_blink_81, eX9_blink_83, eX9_blink_85, eX9_blink_86, eX9_blink_87, eX9_blink_88, eX9_blink_91, eX9_blink_92, eX9_blink_94, eX9_blink_97, fx0, fx1, fx2, fx3, fx4, nl_int, nl_ref, nl_none, nl_ti, rz_nil, rz_int, rz_ref, rz_long, cf1, cf2, Option.toList_some, Option.toList_none, List.cons_append, List.nil_append, h1, h2, if_false, nI_1, show ¬ (100 : Int64) = 0 by decide, not_false_eq_true, true_and]
    exact ih (k + 1) (by omega)
theorem blink_m {Q : Option Value → aW → Prop} {p n : Nat} {q b : Int32} (hn : n ≤ 60) (hk : aE l d none 10 cX10_blink (some .int) Q 91 [some (.ref 109), some (.int (nI p)), some (.int (nI n)), some (.int q), some (.int b), some (.long (odd9 b n)), none, some (.int (nI n))] [] σ) : ∀ m k, k + m = n → aE l d none 10 cX10_blink (some .int) Q 64 [some (.ref 109), some (.int (nI p)), some (.int (nI n)), some (.int q), some (.int b), some (.long (odd9 b k)), none, some (.int (nI k))] [] σ := by
  intro m
  induction m with
  | zero =>
    intro k hkn
    have hkn : k = n := by omega
    subst hkn
    have h1 : nI k ≤ nI k := (nile (by omega) (by omega)).mpr (Nat.le_refl k)
    rw [eX10_blink_64]
    simp only [eX10_blink_66, eX10_blink_67, fx0, fx1, fx2, fx3, fx4, nl_int, nl_ref, nl_none, nl_ti, rz_nil, rz_int, rz_ref, rz_long, cf1, cf2, Option.toList_some, Option.toList_none, List.cons_append, List.nil_append, h1, if_true]
    exact hk
  | succ m ih =>
    intro k hkn
    have h1 : ¬ nI n ≤ nI k := by rw [nile (by omega) (by omega)]; omega
    rw [eX10_blink_64]
    simp only [eX10_blink_66, eX10_blink_67, eX10_blink_70, eX10_blink_72, eX10_blink_74, eX10_blink_76, eX10_blink_77, eX10_blink_78, eX10_blink_79, eX10_blink_82, eX10_blink_83, eX10_blink_85, eX10_blink_88, fx0, fx1, fx2, fx3, fx4, nl_int, nl_ref, nl_none, nl_ti, rz_nil, rz_int, rz_ref, rz_long, cf1, cf2, Option.toList_some, Option.toList_none, List.cons_append, List.nil_append, h1, if_false, nI_1, show ¬ (100 : Int64) = 0 by decide, not_false_eq_true, true_and]
    exact ih (k + 1) (by omega)
theorem op_blink (hI : Inv σ) (x y z : Int32) : Pair l (d + 30) 79 141 [.int x, .int y, .int z] σ := by
  have hI0 := hI
  obtain ⟨h, w, s, hK, ⟨hS, hR⟩, hH, hIm, hD, hE, hB, hT⟩ := hI
  have hw6 : w ≤ 6 := hK.1.2.2
  have k1 : σ 9 4 = nI w := hK.1.1
  have k2 : σ 109 4 = nI w := hK.1.2.1
  refine aC_of rfl (Nat.le_of_ble_eq_true rfl) ?_
  show aE l (d + 29) none 9 cX9_blink (some .int) _ 0 [some (.ref 0), some (.int x), some (.int y), some (.int z), none, none, none, none] [] σ
  simp only [eX9_blink_0, eX9_blink_1, eX9_blink_4, eX9_blink_5, fx0, fx1, fx2, fx3, fx4, nl_int, nl_ref, nl_none, nl_ti, rz_nil, rz_int, rz_ref, rz_long, cf1, cf2, Option.toList_some, Option.toList_none, List.cons_append, List.nil_append]
  refine aC.of (c_hasWatcher (Or.inr rfl)) ?_
  rw [k1]
  have hm : ∀ (P : Option Value → aW → Prop) (v : Int32), inB x.toInt64 0 (nI w - 1).toInt64 = v → aE l (d + 29) none 10 cX10_blink (some .int) P 5 [some (.ref 109), some (.int x), some (.int y), some (.int z), none, none, none, none] [.int v] σ → aC l (d + 30) 141 [.ref 109, .int x, .int y, .int z] σ P := by
    intro P v hv hP
    refine aC_of rfl (Nat.le_of_ble_eq_true rfl) ?_
    show aE l (d + 29) none 10 cX10_blink (some .int) _ 0 [some (.ref 109), some (.int x), some (.int y), some (.int z), none, none, none, none] [] σ
    simp only [eX10_blink_0, eX10_blink_1, eX10_blink_2, fx0, fx1, fx2, fx3, fx4, nl_int, nl_ref, nl_none, nl_ti, rz_nil, rz_int, rz_ref, rz_long, cf1, cf2, Option.toList_some, Option.toList_none, List.cons_append, List.nil_append]
    refine aC.of m_isWatcher ?_
    rw [k2, hv]
    exact hP
  have h60 : (60 : Int64) = (nI 60).toInt64 := by decide
  have h100 : (100 : Int64) = (nI 100).toInt64 := by decide
  rcases wat x hw6 with ⟨p, hp, rfl⟩ | ⟨z1, z2⟩
  · obtain ⟨o1, o2⟩ := wat1 hp hw6
    rw [o1]
    simp only [eX9_blink_8, eX9_blink_11, eX9_blink_13, eX9_blink_14, fx0, fx1, fx2, fx3, fx4, nl_int, nl_ref, nl_none, nl_ti, rz_nil, rz_int, rz_ref, rz_long, cf1, cf2, Option.toList_some, Option.toList_none, List.cons_append, List.nil_append, show ¬ (1 : Int32) = 0 by decide, if_false]
    rcases rgc y (N := 60) (by decide) with ⟨n, hn, rfl⟩ | ⟨y1, y2⟩
    · obtain ⟨n1, n2, n3⟩ := rgc1 hn (by decide)
      have n2 : ¬ 60 < nI n := Int32.not_lt.mpr n2
      simp only [eX9_blink_15, eX9_blink_18, eX9_blink_19, eX9_blink_21, eX9_blink_24, fx0, fx1, fx2, fx3, fx4, nl_int, nl_ref, nl_none, nl_ti, rz_nil, rz_int, rz_ref, rz_long, cf1, cf2, Option.toList_some, Option.toList_none, List.cons_append, List.nil_append, n1, n2, if_false]
      rcases rgc z (N := 100) (by decide) with ⟨q, hq, rfl⟩ | ⟨u1, u2⟩
      · obtain ⟨q1, q2, q3⟩ := rgc1 hq (by decide)
        have q2 : nI q ≤ 100 := q2
        have hin : vp_in (nI p) 6 := vin (by omega) (by omega)
        have hin2 : vp_in (nI p) 19 := vin (by omega) (by omega)
        have hcl : (nI p).toNatClampNeg = p := nic (by omega)
        simp only [eX9_blink_25, eX9_blink_28, eX9_blink_29, eX9_blink_31, eX9_blink_34, eX9_blink_36, eX9_blink_37, eX9_blink_39, eX9_blink_40, eX9_blink_41, eX9_blink_44, eX9_blink_47, eX9_blink_48, eX9_blink_49, eX9_blink_51, eX9_blink_52, eX9_blink_53, eX9_blink_56, eX9_blink_58, eX9_blink_61, eX9_blink_63, eX9_blink_64, fx0, fx1, fx2, fx3, fx4, nl_int, nl_ref, nl_none, nl_ti, rz_nil, rz_int, rz_ref, rz_long, cf1, cf2, Option.toList_some, Option.toList_none, List.cons_append, List.nil_append, q1, q2, if_true, if_false, hin, hcl, true_and, show ¬ (10 : Int32) = 0 by decide, not_false_eq_true]
        refine blink_c (d := d + 29) hn ?_ n 0 (by omega)
        simp only [eX9_blink_100, eX9_blink_102, eX9_blink_103, fx0, fx1, fx2, fx3, fx4, nl_int, nl_ref, nl_none, nl_ti, rz_nil, rz_int, rz_ref, rz_long, cf1, cf2, Option.toList_some, Option.toList_none, List.cons_append, List.nil_append]
        refine hm _ 1 o2 ?_
        simp only [eX10_blink_5, eX10_blink_8, eX10_blink_10, eX10_blink_11, eX10_blink_12, eX10_blink_13, eX10_blink_14, eX10_blink_17, fx0, fx1, fx2, fx3, fx4, nl_int, nl_ref, nl_none, nl_ti, rz_nil, rz_int, rz_ref, rz_long, cf1, cf2, Option.toList_some, Option.toList_none, List.cons_append, List.nil_append, show ¬ (1 : Int32) = 0 by decide, if_false]
        refine aC.of m_in ?_
        rw [h60, n3]
        simp only [eX10_blink_20, eX10_blink_23, eX10_blink_24, eX10_blink_25, eX10_blink_26, eX10_blink_29, fx0, fx1, fx2, fx3, fx4, nl_int, nl_ref, nl_none, nl_ti, rz_nil, rz_int, rz_ref, rz_long, cf1, cf2, Option.toList_some, Option.toList_none, List.cons_append, List.nil_append, show ¬ (1 : Int32) = 0 by decide, if_false]
        refine aC.of m_in ?_
        rw [h100, q3]
        simp only [eX10_blink_32, eX10_blink_35, eX10_blink_37, eX10_blink_38, eX10_blink_39, eX10_blink_40, eX10_blink_43, eX10_blink_44, eX10_blink_45, eX10_blink_47, eX10_blink_48, eX10_blink_49, eX10_blink_51, fx0, fx1, fx2, fx3, fx4, nl_int, nl_ref, nl_none, nl_ti, rz_nil, rz_int, rz_ref, rz_long, cf1, cf2, Option.toList_some, Option.toList_none, List.cons_append, List.nil_append, show ¬ (1 : Int32) = 0 by decide, if_false, hin2, hcl, true_and, show ¬ (10 : Int32) = 0 by decide, not_false_eq_true]
        refine aC.of m_atMost ?_
        simp only [eX10_blink_54, eX10_blink_56, eX10_blink_59, eX10_blink_61, eX10_blink_62, fx0, fx1, fx2, fx3, fx4, nl_int, nl_ref, nl_none, nl_ti, rz_nil, rz_int, rz_ref, rz_long, cf1, cf2, Option.toList_some, Option.toList_none, List.cons_append, List.nil_append]
        refine blink_m (d := d + 29) hn ?_ n 0 (by omega)
        simp only [eX10_blink_91, eX10_blink_93, eX10_blink_94, fx0, fx1, fx2, fx3, fx4, nl_int, nl_ref, nl_none, nl_ti, rz_nil, rz_int, rz_ref, rz_long, cf1, cf2, Option.toList_some, Option.toList_none, List.cons_append, List.nil_append]
        refine ⟨⟨_, rfl, ?_⟩, hI0⟩
        rw [show σ 16 p = σ 114 p from hS.1 p hp]
        rfl
      · have hcls : ∀ Q : Option Value → aW → Prop, aE l (d + 29) none 9 cX9_blink (some .int) Q 34 [some (.ref 0), some (.int (nI p)), some (.int (nI n)), some (.int z), none, none, none, none] [] σ → aE l (d + 29) none 9 cX9_blink (some .int) Q 25 [some (.ref 0), some (.int (nI p)), some (.int (nI n)), some (.int z), none, none, none, none] [.int z] σ := by
          intro Q hQ
          rcases u1 with u1 | ⟨u1, u1b⟩
          · simp only [eX9_blink_25, u1, if_true]
            exact hQ
          · have u1b : ¬ z ≤ 100 := u1b
            simp only [eX9_blink_25, eX9_blink_28, eX9_blink_29, eX9_blink_31, fx0, fx1, fx2, fx3, fx4, nl_int, nl_ref, nl_none, nl_ti, rz_nil, rz_int, rz_ref, rz_long, cf1, cf2, Option.toList_some, Option.toList_none, List.cons_append, List.nil_append, u1, u1b, if_false]
            exact hQ
        refine hcls _ ?_
        simp only [eX9_blink_34, eX9_blink_36, fx0, fx1, fx2, fx3, fx4, nl_int, nl_ref, nl_none, nl_ti, rz_nil, rz_int, rz_ref, rz_long, cf1, cf2, Option.toList_some, Option.toList_none, List.cons_append, List.nil_append]
        refine hm _ 1 o2 ?_
        simp only [eX10_blink_5, eX10_blink_8, eX10_blink_10, eX10_blink_11, eX10_blink_12, eX10_blink_13, eX10_blink_14, eX10_blink_17, fx0, fx1, fx2, fx3, fx4, nl_int, nl_ref, nl_none, nl_ti, rz_nil, rz_int, rz_ref, rz_long, cf1, cf2, Option.toList_some, Option.toList_none, List.cons_append, List.nil_append, show ¬ (1 : Int32) = 0 by decide, if_false]
        refine aC.of m_in ?_
        rw [h60, n3]
        simp only [eX10_blink_20, eX10_blink_23, eX10_blink_24, eX10_blink_25, eX10_blink_26, eX10_blink_29, fx0, fx1, fx2, fx3, fx4, nl_int, nl_ref, nl_none, nl_ti, rz_nil, rz_int, rz_ref, rz_long, cf1, cf2, Option.toList_some, Option.toList_none, List.cons_append, List.nil_append, show ¬ (1 : Int32) = 0 by decide, if_false]
        refine aC.of m_in ?_
        rw [h100, u2]
        simp only [eX10_blink_32, eX10_blink_35, eX10_blink_37, fx0, fx1, fx2, fx3, fx4, nl_int, nl_ref, nl_none, nl_ti, rz_nil, rz_int, rz_ref, rz_long, cf1, cf2, Option.toList_some, Option.toList_none, List.cons_append, List.nil_append, if_true]
        exact ⟨⟨_, rfl, rfl⟩, hI0⟩
    · have hcls : ∀ Q : Option Value → aW → Prop, aE l (d + 29) none 9 cX9_blink (some .int) Q 34 [some (.ref 0), some (.int (nI p)), some (.int y), some (.int z), none, none, none, none] [] σ → aE l (d + 29) none 9 cX9_blink (some .int) Q 15 [some (.ref 0), some (.int (nI p)), some (.int y), some (.int z), none, none, none, none] [.int y] σ := by
        intro Q hQ
        rcases y1 with y1 | ⟨y1, y1b⟩
        · simp only [eX9_blink_15, y1, if_true]
          exact hQ
        · have y1b : 60 < y := Int32.not_le.mp y1b
          simp only [eX9_blink_15, eX9_blink_18, eX9_blink_19, eX9_blink_21, fx0, fx1, fx2, fx3, fx4, nl_int, nl_ref, nl_none, nl_ti, rz_nil, rz_int, rz_ref, rz_long, cf1, cf2, Option.toList_some, Option.toList_none, List.cons_append, List.nil_append, y1, y1b, if_true, if_false]
          exact hQ
      refine hcls _ ?_
      simp only [eX9_blink_34, eX9_blink_36, fx0, fx1, fx2, fx3, fx4, nl_int, nl_ref, nl_none, nl_ti, rz_nil, rz_int, rz_ref, rz_long, cf1, cf2, Option.toList_some, Option.toList_none, List.cons_append, List.nil_append]
      refine hm _ 1 o2 ?_
      simp only [eX10_blink_5, eX10_blink_8, eX10_blink_10, eX10_blink_11, eX10_blink_12, eX10_blink_13, eX10_blink_14, eX10_blink_17, fx0, fx1, fx2, fx3, fx4, nl_int, nl_ref, nl_none, nl_ti, rz_nil, rz_int, rz_ref, rz_long, cf1, cf2, Option.toList_some, Option.toList_none, List.cons_append, List.nil_append, show ¬ (1 : Int32) = 0 by decide, if_false]
      refine aC.of m_in ?_
      rw [h60, y2]
      simp only [eX10_blink_20, eX10_blink_35, eX10_blink_37, fx0, fx1, fx2, fx3, fx4, nl_int, nl_ref, nl_none, nl_ti, rz_nil, rz_int, rz_ref, rz_long, cf1, cf2, Option.toList_some, Option.toList_none, List.cons_append, List.nil_append, if_true]
      exact ⟨⟨_, rfl, rfl⟩, hI0⟩
  · rw [z1]
    simp only [eX9_blink_8, eX9_blink_11, eX9_blink_13, fx0, fx1, fx2, fx3, fx4, nl_int, nl_ref, nl_none, nl_ti, rz_nil, rz_int, rz_ref, rz_long, cf1, cf2, Option.toList_some, Option.toList_none, List.cons_append, List.nil_append, if_true]
    refine hm _ 0 z2 ?_
    simp only [eX10_blink_5, eX10_blink_8, eX10_blink_10, fx0, fx1, fx2, fx3, fx4, nl_int, nl_ref, nl_none, nl_ti, rz_nil, rz_int, rz_ref, rz_long, cf1, cf2, Option.toList_some, Option.toList_none, List.cons_append, List.nil_append, if_true]
    exact ⟨⟨_, rfl, rfl⟩, hI0⟩
theorem nights_c {h p : Nat} (hh0 : 0 < h) (hh6 : h ≤ 6) (hp : p < 6) (hH : σ 9 0 = nI h) : ∀ m k (t : Int32), k + m = 100 * h → aE l d none 8 cX8_nightsOf (some .int) (fun r' σ'' => r' = some (.int (ngt (nI h) (σ 11 p) (σ 13 p) m k t)) ∧ σ'' = σ) 28 [some (.ref 91), some (.ref 9), some (.ref 15), some (.int (nI p)), some (.int t), some (.int (nI k))] [] σ := by
  have hin : vp_in (nI p) 6 := vin (by omega) (by omega)
  have hcl : (nI p).toNatClampNeg = p := nic (by omega)
  have hmul : (100 : Int32) * nI h = nI (100 * h) := by rw [show (100 : Int32) = nI 100 from rfl, pk_mul]
  have hne : ¬ nI h = 0 := nI_ne0 hh0 (by omega)
  intro m
  induction m with
  | zero =>
    intro k t hkn
    have hkn : k = 100 * h := by omega
    subst hkn
    have h1 : nI (100 * h) ≤ nI (100 * h) := (nile (by omega) (by omega)).mpr (Nat.le_refl _)
    simp only [eX8_nightsOf_28, eX8_nightsOf_30, eX8_nightsOf_32, eX8_nightsOf_33, eX8_nightsOf_36, eX8_nightsOf_37, eX8_nightsOf_82, eX8_nightsOf_83, fx0, fx1, fx2, fx3, fx4, nl_int, nl_ref, nl_none, nl_ti, rz_nil, rz_int, rz_ref, rz_long, cf1, cf2, Option.toList_some, Option.toList_none, List.cons_append, List.nil_append, hH, hmul, h1, if_true]
    exact ⟨rfl, trivial⟩
  | succ m ih =>
    intro k t hkn
    have h1 : ¬ nI (100 * h) ≤ nI k := by rw [nile (by omega) (by omega)]; omega
    rw [eX8_nightsOf_28]
    simp only [eX8_nightsOf_30, eX8_nightsOf_32, eX8_nightsOf_33, eX8_nightsOf_36, eX8_nightsOf_37, eX8_nightsOf_40, eX8_nightsOf_43, eX8_nightsOf_45, eX8_nightsOf_46, eX8_nightsOf_49, eX8_nightsOf_50, eX8_nightsOf_51, eX8_nightsOf_52, eX8_nightsOf_55, eX8_nightsOf_57, eX8_nightsOf_59, eX8_nightsOf_60, eX8_nightsOf_63, eX8_nightsOf_64, eX8_nightsOf_65, eX8_nightsOf_68, eX8_nightsOf_70, eX8_nightsOf_71, eX8_nightsOf_74, eX8_nightsOf_75, eX8_nightsOf_76, eX8_nightsOf_79, fx0, fx1, fx2, fx3, fx4, nl_int, nl_ref, nl_none, nl_ti, rz_nil, rz_int, rz_ref, rz_long, cf1, cf2, Option.toList_some, Option.toList_none, List.cons_append, List.nil_append, hH, hmul, h1, if_false, hin, hcl, nI_1, true_and, hne, not_false_eq_true]
    unfold ngt
    by_cases hb : mn 199 (t + σ 11 p) ≤ σ 13 p
    · have hb9 : (if t + σ 11 p < 199 then t + σ 11 p else 199) ≤ σ 13 p := hb
      simp only [hb, hb9, if_true]
      exact ih (k + 1) _ (by omega)
    · have hb9 : ¬ (if t + σ 11 p < 199 then t + σ 11 p else 199) ≤ σ 13 p := hb
      simp only [hb, hb9, if_false, true_or, or_true, true_and, and_true, and_self]
theorem nights_m {h p : Nat} (hh0 : 0 < h) (hh6 : h ≤ 6) (hp : p < 6) (hH : σ 109 0 = nI h) : ∀ m k (t : Int32), k + m = 100 * h → aE l (d + 1) none 10 cX10_nights (some .int) (fun r' σ'' => r' = some (.int (ngt (nI h) (σ 110 p) (σ 112 p) m k t)) ∧ σ'' = σ) 20 [some (.ref 109), some (.int (nI p)), some (.int t), some (.int (nI k))] [] σ := by
  have hin : vp_in (nI p) 6 := vin (by omega) (by omega)
  have hcl : (nI p).toNatClampNeg = p := nic (by omega)
  have hmul : (100 : Int32) * nI h = nI (100 * h) := by rw [show (100 : Int32) = nI 100 from rfl, pk_mul]
  have hne : ¬ nI h = 0 := nI_ne0 hh0 (by omega)
  intro m
  induction m with
  | zero =>
    intro k t hkn
    have hkn : k = 100 * h := by omega
    subst hkn
    have h1 : nI (100 * h) ≤ nI (100 * h) := (nile (by omega) (by omega)).mpr (Nat.le_refl _)
    simp only [eX10_nights_20, eX10_nights_21, eX10_nights_23, eX10_nights_24, eX10_nights_27, eX10_nights_28, eX10_nights_69, eX10_nights_70, fx0, fx1, fx2, fx3, fx4, nl_int, nl_ref, nl_none, nl_ti, rz_nil, rz_int, rz_ref, rz_long, cf1, cf2, Option.toList_some, Option.toList_none, List.cons_append, List.nil_append, hH, hmul, h1, if_true]
    exact ⟨rfl, trivial⟩
  | succ m ih =>
    intro k t hkn
    have h1 : ¬ nI (100 * h) ≤ nI k := by rw [nile (by omega) (by omega)]; omega
    rw [eX10_nights_20]
    simp only [eX10_nights_21, eX10_nights_23, eX10_nights_24, eX10_nights_27, eX10_nights_28, eX10_nights_31, eX10_nights_32, eX10_nights_33, eX10_nights_36, eX10_nights_37, eX10_nights_38, eX10_nights_39, eX10_nights_42, fx0, fx1, fx2, fx3, fx4, nl_int, nl_ref, nl_none, nl_ti, rz_nil, rz_int, rz_ref, rz_long, cf1, cf2, Option.toList_some, Option.toList_none, List.cons_append, List.nil_append, hH, hmul, h1, if_false, hin, hcl, true_and]
    refine aC.of m_atMost ?_
    simp only [eX10_nights_45, eX10_nights_46, eX10_nights_47, eX10_nights_48, eX10_nights_51, eX10_nights_52, eX10_nights_53, eX10_nights_56, eX10_nights_57, eX10_nights_58, eX10_nights_61, eX10_nights_62, eX10_nights_63, eX10_nights_66, fx0, fx1, fx2, fx3, fx4, nl_int, nl_ref, nl_none, nl_ti, rz_nil, rz_int, rz_ref, rz_long, cf1, cf2, Option.toList_some, Option.toList_none, List.cons_append, List.nil_append, hH, hin, hcl, nI_1, true_and, hne, not_false_eq_true]
    unfold ngt
    by_cases hb : mn 199 (t + σ 110 p) ≤ σ 112 p
    · simp only [hb, if_true]
      exact ih (k + 1) _ (by omega)
    · simp only [hb, if_false, true_or, or_true, true_and, and_true, and_self]
theorem op_nights (hI : Inv σ) (x : Int32) : Pair l (d + 30) 75 135 [.int x] σ := by
  have hI0 := hI
  obtain ⟨h, w, s, hK, ⟨hS, hR⟩, hH, hIm, hD, hE, hB, hT⟩ := hI
  have hw6 : w ≤ 6 := hK.1.2.2
  have k1 : σ 9 4 = nI w := hK.1.1
  have k2 : σ 109 4 = nI w := hK.1.2.1
  have k5 : σ 9 0 = nI h := hK.2.2.1.2.1
  have k6 : σ 109 0 = nI h := hK.2.2.1.2.2.1
  have hh6 : h ≤ 6 := hK.2.2.1.1
  refine aC_of rfl (Nat.le_of_ble_eq_true rfl) ?_
  show aE l (d + 29) none 9 cX9_nights (some .int) _ 0 [some (.ref 0), some (.int x)] [] σ
  simp only [eX9_nights_0, eX9_nights_1, eX9_nights_4, eX9_nights_5, fx0, fx1, fx2, fx3, fx4, nl_int, nl_ref, nl_none, nl_ti, rz_nil, rz_int, rz_ref, rz_long, cf1, cf2, Option.toList_some, Option.toList_none, List.cons_append, List.nil_append]
  refine aC.of (c_hasWatcher (Or.inr rfl)) ?_
  rw [k1]
  have hm : ∀ (P : Option Value → aW → Prop) (v : Int32), inB x.toInt64 0 (nI w - 1).toInt64 = v → aE l (d + 29) none 10 cX10_nights (some .int) P 5 [some (.ref 109), some (.int x), none, none] [.int v] σ → aC l (d + 30) 135 [.ref 109, .int x] σ P := by
    intro P v hv hP
    refine aC_of rfl (Nat.le_of_ble_eq_true rfl) ?_
    show aE l (d + 29) none 10 cX10_nights (some .int) _ 0 [some (.ref 109), some (.int x), none, none] [] σ
    simp only [eX10_nights_0, eX10_nights_1, eX10_nights_2, fx0, fx1, fx2, fx3, fx4, nl_int, nl_ref, nl_none, nl_ti, rz_nil, rz_int, rz_ref, rz_long, cf1, cf2, Option.toList_some, Option.toList_none, List.cons_append, List.nil_append]
    refine aC.of m_isWatcher ?_
    rw [k2, hv]
    exact hP
  rcases wat x hw6 with ⟨p, hp, rfl⟩ | ⟨z1, z2⟩
  · obtain ⟨o1, o2⟩ := wat1 hp hw6
    have hh0 : 0 < h := by
      rcases Nat.eq_zero_or_pos h with e | e
      · have := (hK.2.2.1.2.2.2 e).1; omega
      · exact e
    have hin : vp_in (nI p) 6 := vin (by omega) (by omega)
    have hin2 : vp_in (nI p) 19 := vin (by omega) (by omega)
    have hcl : (nI p).toNatClampNeg = p := nic (by omega)
    rw [o1]
    simp only [eX9_nights_8, eX9_nights_11, eX9_nights_13, eX9_nights_14, eX9_nights_15, eX9_nights_18, eX9_nights_19, eX9_nights_22, eX9_nights_23, eX9_nights_26, eX9_nights_27, fx0, fx1, fx2, fx3, fx4, nl_int, nl_ref, nl_none, nl_ti, rz_nil, rz_int, rz_ref, rz_long, cf1, cf2, Option.toList_some, Option.toList_none, List.cons_append, List.nil_append, show ¬ (1 : Int32) = 0 by decide, if_false]
    have hc : Sem l (d + 29) 58 [.ref 91, .ref 9, .ref 15, .int (nI p)] σ (some (.int (ngt (nI h) (σ 11 p) (σ 13 p) (100 * h) 0 (σ 16 p)))) σ := by
      refine Sem_of rfl (Nat.le_of_ble_eq_true rfl) ?_
      show aE l (d + 28) none 8 cX8_nightsOf (some .int) _ 0 [some (.ref 91), some (.ref 9), some (.ref 15), some (.int (nI p)), none, none] [] σ
      simp only [eX8_nightsOf_0, eX8_nightsOf_1, eX8_nightsOf_2, fx0, fx1, fx2, fx3, fx4, nl_int, nl_ref, nl_none, nl_ti, rz_nil, rz_int, rz_ref, rz_long, cf1, cf2, Option.toList_some, Option.toList_none, List.cons_append, List.nil_append]
      refine aC.of (c_hasWatcher (Or.inr rfl)) ?_
      rw [k1, o1]
      have hpos : (0 : Int32) < nI h := by rw [show (0 : Int32) = nI 0 from rfl, nilt (by omega) (by omega)]; exact hh0
      simp only [eX8_nightsOf_5, eX8_nightsOf_8, eX8_nightsOf_9, eX8_nightsOf_12, eX8_nightsOf_15, eX8_nightsOf_16, eX8_nightsOf_17, eX8_nightsOf_18, eX8_nightsOf_21, eX8_nightsOf_22, eX8_nightsOf_23, eX8_nightsOf_25, eX8_nightsOf_26, fx0, fx1, fx2, fx3, fx4, nl_int, nl_ref, nl_none, nl_ti, rz_nil, rz_int, rz_ref, rz_long, cf1, cf2, Option.toList_some, Option.toList_none, List.cons_append, List.nil_append, show ¬ (1 : Int32) = 0 by decide, if_false, k5, hpos, if_true, hin, hcl, true_and]
      exact nights_c hh0 hh6 (by omega) k5 (100 * h) 0 _ (by omega)
    refine aC.of hc ?_
    simp only [eX9_nights_30, fx0, fx1, fx2, fx3, fx4, nl_int, nl_ref, nl_none, nl_ti, rz_nil, rz_int, rz_ref, rz_long, cf1, cf2, Option.toList_some, Option.toList_none, List.cons_append, List.nil_append]
    refine hm _ 1 o2 ?_
    simp only [eX10_nights_5, eX10_nights_8, eX10_nights_10, eX10_nights_11, eX10_nights_12, eX10_nights_15, eX10_nights_16, eX10_nights_17, eX10_nights_18, eX10_nights_19, fx0, fx1, fx2, fx3, fx4, nl_int, nl_ref, nl_none, nl_ti, rz_nil, rz_int, rz_ref, rz_long, cf1, cf2, Option.toList_some, Option.toList_none, List.cons_append, List.nil_append, show ¬ (1 : Int32) = 0 by decide, if_false, hin2, hcl, true_and]
    obtain ⟨p1, p2, p3, -⟩ := hK.2.2.2.2.1 p hp
    have hmm := nights_m (l := l) (d := d + 28) (σ := σ) hh0 hh6 (show p < 6 by omega) k6 (100 * h) 0 (σ 114 p) (by omega)
    rw [p1, p3, show σ 16 p = σ 114 p from hS.1 p hp]
    refine aE_mono hmm ?_
    rintro r2 σ2 ⟨rfl, rfl⟩
    exact ⟨⟨_, rfl, rfl⟩, hI0⟩
  · rw [z1]
    simp only [eX9_nights_8, eX9_nights_11, eX9_nights_13, fx0, fx1, fx2, fx3, fx4, nl_int, nl_ref, nl_none, nl_ti, rz_nil, rz_int, rz_ref, rz_long, cf1, cf2, Option.toList_some, Option.toList_none, List.cons_append, List.nil_append, if_true]
    refine hm _ 0 z2 ?_
    simp only [eX10_nights_5, eX10_nights_8, eX10_nights_10, fx0, fx1, fx2, fx3, fx4, nl_int, nl_ref, nl_none, nl_ti, rz_nil, rz_int, rz_ref, rz_long, cf1, cf2, Option.toList_some, Option.toList_none, List.cons_append, List.nil_append, if_true]
    exact ⟨⟨_, rfl, rfl⟩, hI0⟩
end O9
