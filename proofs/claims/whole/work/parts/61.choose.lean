/-! the best watches: the class's leaves -/
theorem row_f : ∀ h, h < 7 → rel 93 h = 94 + h ∧ akd (94 + h) = 0 ∧ aln (94 + h) = 6 := by decide +kernel
theorem bit1 : ∀ p, p < 6 → ∀ q, q < 6 → (((1 : Int32) <<< (nI p &&& 31)) >>> (nI q &&& 31)) &&& 1 = if q = p then 1 else 0 := by decide +kernel
theorem nI_sb {a b : Nat} (h : b ≤ a) : nI a - nI b = nI (a - b) := by
  rw [show nI a = nI (a - b) + nI b from by rw [nI_add, Nat.sub_add_cancel h], Int32.add_sub_cancel]
theorem nI_ml (a b : Nat) : nI a * nI b = nI (a * b) := by
  induction b with
  | zero => show nI a * 0 = nI (a * 0); rw [Int32.mul_zero]; rfl
  | succ b ih => rw [← nI_add b 1, Int32.mul_add, ih, show nI 1 = 1 from rfl, Int32.mul_one, nI_add, Nat.mul_succ]
theorem nI_sneg {a b : Nat} (h : a ≤ b) (hb : b ≤ 1000000) : ¬ 0 < nI a - nI b := by
  rw [Int32.lt_iff_toInt_lt, pk_sub_toInt (by omega) (by omega)]
  simp
  omega
theorem mx0_sub {a b : Nat} (ha : a ≤ 1000000) (hb : b ≤ 1000000) : mx0 (nI a - nI b) = nI (a - b) := by
  unfold mx0
  by_cases h : b < a
  · rw [nI_sb (by omega), if_pos]
    rw [show (0 : Int32) = nI 0 from rfl, nilt (by omega) (by omega)]
    omega
  · rw [if_neg (nI_sneg (by omega) hb), show a - b = 0 by omega]
    rfl
theorem mn_199 {a : Nat} (ha : a ≤ 1000000) : mn 199 (nI a) = nI (min 199 a) := by
  unfold mn
  by_cases h : a < 199
  · rw [if_pos (by rw [show (199 : Int32) = nI 199 from rfl, nilt (by omega) (by omega)]; exact h), Nat.min_eq_right (by omega)]
  · rw [if_neg (by rw [show (199 : Int32) = nI 199 from rfl, nilt (by omega) (by omega)]; exact h), Nat.min_eq_left (by omega)]
    rfl
theorem tE_stp {M L T : Nat → Nat} {B : Int32} {p q : Nat} (hp : p < 6) (hq : q < 6) (hT : T q ≤ 199) (hM : M q ≤ 30) (hL : L q ≤ 30) : tE ((1 : Int32) <<< (nI p &&& 31)) 0 B (nI (M q)) (nI (L q)) (nI (T q)) q = nI (stp M L p T q) := by
  unfold tE stp
  rw [bit1 p hp q hq]
  by_cases e : q = p
  · rw [if_pos e, if_neg (by decide), if_pos rfl, if_pos e, nI_add, mn_199 (by omega)]
  · rw [if_neg e, if_pos rfl, if_neg e, mx0_sub (by omega) (by omega)]
theorem nod_stp {M L Li T : Nat → Nat} {B : Int32} {mo le lim t : Nat → Int32} {p w : Nat} (hp : p < w) (hw : w ≤ 6) (hT : ∀ q, q < w → t q = nI (T q) ∧ T q ≤ 199) (hM : ∀ q, q < w → mo q = nI (M q) ∧ M q ≤ 30) (hL : ∀ q, q < w → le q = nI (L q) ∧ L q ≤ 30) (hLi : ∀ q, q < w → lim q = nI (Li q) ∧ Li q ≤ 99) : (nodS ((1 : Int32) <<< (nI p &&& 31)) 0 B mo le lim t w = 0) = (stp M L p T p ≤ Li p) := by
  have main : ∀ k, k ≤ w → nodS ((1 : Int32) <<< (nI p &&& 31)) 0 B mo le lim t k = if p < k ∧ ¬ stp M L p T p ≤ Li p then (1 : Int32) <<< (nI p &&& 31) else 0 := by
    intro k
    induction k with
    | zero => intro _; rw [if_neg (by omega)]; rfl
    | succ k ih =>
      intro hk
      have hb := stp_le (M := M) (L := L) (p := p) (fun q hq => (hT q hq).2) k (by omega)
      rw [nodS_s, bit1 p (by omega) k (by omega), ih (by omega), (hM k (by omega)).1, (hL k (by omega)).1, (hT k (by omega)).1, (hLi k (by omega)).1, tE_stp (by omega) (by omega) (hT k (by omega)).2 (hM k (by omega)).2 (hL k (by omega)).2]
      have hli := (hLi k (by omega)).2
      by_cases e : k = p
      · subst e
        rw [if_pos rfl, if_neg (by decide), if_neg (show ¬ (k < k ∧ _) by omega)]
        by_cases e2 : stp M L k T k ≤ Li k
        · rw [if_pos ((nile (by omega) (by omega)).mpr e2), if_neg (fun c => c.2 e2)]
        · rw [if_neg (by rw [nile (by omega) (by omega)]; exact e2), if_pos ⟨by omega, e2⟩]
          simp
      · rw [if_neg e, if_pos rfl]
        by_cases e2 : p < k
        · by_cases e3 : stp M L p T p ≤ Li p
          · rw [if_neg (fun c => c.2 e3), if_neg (fun c => c.2 e3)]
          · rw [if_pos ⟨e2, e3⟩, if_pos ⟨by omega, e3⟩]
        · rw [if_neg (by omega), if_neg (by omega)]
  rw [main w (Nat.le_refl w)]
  have hne : ∀ p, p < 6 → ¬ (1 : Int32) <<< (nI p &&& 31) = 0 := by decide +kernel
  by_cases e : stp M L p T p ≤ Li p
  · rw [if_neg (fun c => c.2 e)]
    simp [e]
  · rw [if_pos ⟨hp, e⟩]
    simp [e, hne p (by omega)]
section CH
variable {l : Launch} {d : Nat} {σ : aW}
theorem c_lpe {t w n : Nat} {L T : Nat → Nat} (ht : akd t = 0) (ht2 : aln t = 6) (hw : σ 9 4 = nI w) (hw6 : w ≤ 6) (hn : n ≤ 6) (hT : ∀ q, q < w → σ t q = nI (T q) ∧ T q ≤ 199) (hL : ∀ q, q < w → σ 12 q = nI (L q) ∧ L q ≤ 30) : Sem l (d + 1) 53 [.ref 91, .ref 9, .ref t, .int (nI n)] σ (some (.int (nI (lpN L n T w)))) σ := by
  refine Sem_of rfl (Nat.le_of_ble_eq_true rfl) ?_
  show aE l d none 8 cX8_leastPossibleEnd (some .int) _ 0 [some (.ref 91), some (.ref 9), some (.ref t), some (.int (nI n)), none, none] [] σ
  simp only [eX8_leastPossibleEnd_0, eX8_leastPossibleEnd_1, eX8_leastPossibleEnd_3, eX8_leastPossibleEnd_4, fx0, fx1, fx2, fx3, fx4, nl_int, nl_ref, nl_none, nl_ti, rz_nil, rz_int, rz_ref, rz_long, cf1, cf2, Option.toList_some, Option.toList_none, List.cons_append, List.nil_append]
  have main : ∀ j k, k + j = w → aE l d none 8 cX8_leastPossibleEnd (some .int) (fun r' σ'' => r' = some (.int (nI (lpN L n T w))) ∧ σ'' = σ) 6 [some (.ref 91), some (.ref 9), some (.ref t), some (.int (nI n)), some (.int (nI (lpN L n T k))), some (.int (nI k))] [] σ := by
    intro j
    induction j with
    | zero =>
      intro k hkn
      have hkn : k = w := by omega
      subst hkn
      have e1 : nI k ≤ nI k := (nile (by omega) (by omega)).mpr (Nat.le_refl _)
      simp only [eX8_leastPossibleEnd_6, eX8_leastPossibleEnd_8, eX8_leastPossibleEnd_9, eX8_leastPossibleEnd_12, eX8_leastPossibleEnd_49, eX8_leastPossibleEnd_51, fx0, fx1, fx2, fx3, fx4, nl_int, nl_ref, nl_none, nl_ti, rz_nil, rz_int, rz_ref, rz_long, cf1, cf2, Option.toList_some, Option.toList_none, List.cons_append, List.nil_append, hw, e1, if_true, true_or, or_true, true_and, and_true, and_self]
    | succ j ih =>
      intro k hkn
      have e1 : ¬ nI w ≤ nI k := by rw [nile (by omega) (by omega)]; omega
      have e2 : ¬ (6 : Int32) ≤ nI k := by rw [show (6 : Int32) = nI 6 from rfl, nile (by omega) (by omega)]; omega
      have hin : vp_in (nI k) 6 := vin (by omega) (by omega)
      have hcl : (nI k).toNatClampNeg = k := nic (by omega)
      have key := ih (k + 1) (by omega)
      rw [lpN_s] at key
      obtain ⟨t1, t2⟩ := hT k (by omega)
      obtain ⟨l1, l2⟩ := hL k (by omega)
      have hb := lpN_le (L := L) (n := n) (T := T) k (fun q hq => (hT q (by omega)).2)
      have hmul : L k * n ≤ 180 := Nat.le_trans (Nat.mul_le_mul l2 hn) (by decide)
      rw [eX8_leastPossibleEnd_6]
      simp only [eX8_leastPossibleEnd_8, eX8_leastPossibleEnd_9, eX8_leastPossibleEnd_12, eX8_leastPossibleEnd_15, eX8_leastPossibleEnd_17, eX8_leastPossibleEnd_19, eX8_leastPossibleEnd_22, eX8_leastPossibleEnd_24, eX8_leastPossibleEnd_25, eX8_leastPossibleEnd_27, eX8_leastPossibleEnd_28, eX8_leastPossibleEnd_29, eX8_leastPossibleEnd_32, eX8_leastPossibleEnd_34, eX8_leastPossibleEnd_35, eX8_leastPossibleEnd_36, eX8_leastPossibleEnd_37, fx0, fx1, fx2, fx3, fx4, nl_int, nl_ref, nl_none, nl_ti, rz_nil, rz_int, rz_ref, rz_long, cf1, cf2, Option.toList_some, Option.toList_none, List.cons_append, List.nil_append, hw, e1, e2, if_false, ht, ht2, hin, hcl, true_and, t1, l1]
      have hv : (if nI (lpN L n T k) < nI (T k) - nI (L k) * nI n then nI (T k) - nI (L k) * nI n else nI (lpN L n T k)) = nI (max (lpN L n T k) (T k - L k * n)) := by
        rw [nI_ml]
        by_cases e3 : L k * n ≤ T k
        · rw [nI_sb e3]
          by_cases e4 : lpN L n T k < T k - L k * n
          · rw [if_pos ((nilt (by omega) (by omega)).mpr e4), Nat.max_eq_right (by omega)]
          · rw [if_neg (by rw [nilt (by omega) (by omega)]; exact e4), Nat.max_eq_left (by omega)]
        · rw [if_neg, Nat.max_eq_left (by omega)]
          intro e5
          have h6 : (0 : Int32) ≤ nI (lpN L n T k) := nI_pos' (by omega)
          exact nI_sneg (a := T k) (b := L k * n) (by omega) (by omega) (Int32.lt_of_le_of_lt h6 e5)
      simp only [eX8_leastPossibleEnd_38, eX8_leastPossibleEnd_41, eX8_leastPossibleEnd_43, eX8_leastPossibleEnd_46, fx0, fx1, fx2, fx3, fx4, nl_int, nl_ref, nl_none, nl_ti, rz_nil, rz_int, rz_ref, rz_long, cf1, cf2, Option.toList_some, Option.toList_none, List.cons_append, List.nil_append, hv, nI_1]
      exact key
  exact main w 0 (by omega)
theorem c_takeChosen {E : Int32} : Sem l (d + 1) 54 [.ref 91, .int E] σ none (sr (su σ 91 1 E) 92 (pre 6 (σ 101) (σ 92))) := by
  refine Sem_of rfl (Nat.le_of_ble_eq_true rfl) ?_
  show aE l d none 8 cX8_takeChosen none _ 0 [some (.ref 91), some (.int E)] [] σ
  simp only [eX8_takeChosen_0, eX8_takeChosen_1, eX8_takeChosen_2, eX8_takeChosen_5, eX8_takeChosen_6, eX8_takeChosen_9, eX8_takeChosen_10, eX8_takeChosen_11, eX8_takeChosen_14, eX8_takeChosen_15, eX8_takeChosen_17, eX8_takeChosen_20, fx0, fx1, fx2, fx3, fx4, nl_int, nl_ref, nl_none, nl_ti, rz_nil, rz_int, rz_ref, rz_long, cf1, cf2, Option.toList_some, Option.toList_none, List.cons_append, List.nil_append, sy_sr, su_at, su_ne, sr_eq, sr_ne, ne_eq, Nat.reduceEqDiff, not_false_eq_true, not_true_eq_false, if_true, if_false, Nat.le_refl, true_or, or_true, true_and, and_true, and_self]
def chQ (σ : aW) (H h : Nat) (τ τ' : aW) (a : acW) : Prop := (∀ c, c ≤ 90 ∨ 103 ≤ c → τ' c = σ c) ∧ (∀ j, j ≤ h → τ' (94 + j) = τ (94 + j)) ∧ (∀ j, j < h → τ' 101 j = τ 101 j) ∧ τ' 91 1 = nI a.1 ∧ (a.1 = 200 ∨ ∀ j, j < H → τ' 92 j = nI (a.2 j))
def chP (σ : aW) (H w h : Nat) (τ : aW) (T r : Nat → Nat) (a : acW) : Prop := chQ σ H h τ τ a ∧ (∀ q, q < w → τ (94 + h) q = nI (T q)) ∧ ∀ j, j < h → τ 101 j = nI (r j)
theorem fo_le {g : Nat → acW → acW} (hg : ∀ p a, (g p a).1 ≤ a.1) : ∀ k a, (fo g k a).1 ≤ a.1 := by
  intro k
  induction k with
  | zero => exact fun a => Nat.le_refl _
  | succ k ih => intro a; rw [fo_s]; exact Nat.le_trans (hg _ _) (ih a)
theorem choose_step {H w n h : Nat} {M L Li : Nat → Nat} (hw : σ 9 4 = nI w) (hw6 : w ≤ 6) (hH : σ 9 0 = nI H) (hH6 : H ≤ 6) (hM : ∀ q, q < w → σ 11 q = nI (M q) ∧ M q ≤ 30) (hL : ∀ q, q < w → σ 12 q = nI (L q) ∧ L q ≤ 30) (hLi : ∀ q, q < w → σ 13 q = nI (Li q) ∧ Li q ≤ 99) (hh : h + (n + 1) = H)
    (ih : ∀ n', n = n' + 1 → ∀ (τ : aW) (T r : Nat → Nat) (a : acW) (P : Option Value → aW → Prop), chP σ H w (h + 1) τ T r a → a.1 ≤ 200 → (∀ q, q < w → T q ≤ 199) → (∀ τ', chQ σ H (h + 1) τ τ' (exW H w M L Li (n' + 1) T r a) → P none τ') → aC l (d + n' + 4) 52 [.ref 91, .ref 9, .int (nI (h + 1))] τ P)
    (τ : aW) (T r : Nat → Nat) (a : acW) (P : Option Value → aW → Prop) (hp : chP σ H w h τ T r a) (ha : a.1 ≤ 200) (hT : ∀ q, q < w → T q ≤ 199) (hP : ∀ τ', chQ σ H h τ τ' (exW H w M L Li (n + 1) T r a) → P none τ') : aC l (d + n + 4) 52 [.ref 91, .ref 9, .int (nI h)] τ P := by
  refine aC_of rfl (Nat.le_of_ble_eq_true rfl) ?_
  show aE l (d + n + 3) none 8 cX8_chooseFrom none _ 0 [some (.ref 91), some (.ref 9), some (.int (nI h)), none, none, none] [] τ
  have h0 : ¬ nI h < 0 := nI_pos (by omega)
  have h6 : nI h < 6 := by rw [show (6 : Int32) = nI 6 from rfl, nilt (by omega) (by omega)]; omega
  have hin6 : vp_in (nI h) 6 := vin (by omega) (by omega)
  have hin7 : vp_in (nI h) 7 := vin (by omega) (by omega)
  have hin8 : vp_in (nI (h + 1)) 7 := vin (by omega) (by omega)
  have hcl : (nI h).toNatClampNeg = h := nic (by omega)
  have hcl2 : (nI (h + 1)).toNatClampNeg = h + 1 := nic (by omega)
  obtain ⟨f1, f2, f3⟩ := row_f h (by omega)
  obtain ⟨g1, g2, g3⟩ := row_f (h + 1) (by omega)
  obtain ⟨⟨q1, -, -, q4, q5⟩, p2, p3⟩ := hp
  simp only [eX8_chooseFrom_0, eX8_chooseFrom_1, eX8_chooseFrom_4, eX8_chooseFrom_5, eX8_chooseFrom_7, eX8_chooseFrom_10, eX8_chooseFrom_11, eX8_chooseFrom_12, fx0, fx1, fx2, fx3, fx4, nl_int, nl_ref, nl_none, nl_ti, rz_nil, rz_int, rz_ref, rz_long, cf1, cf2, Option.toList_some, Option.toList_none, List.cons_append, List.nil_append, h0, h6, if_true, if_false]
  obtain ⟨g, hg⟩ : ∃ g : Nat → acW → acW, g = fun p a' => if stp M L p T p ≤ Li p then exW H w M L Li n (stp M L p T) (updN r (H - (n + 1)) p) a' else a' := ⟨_, rfl⟩
  have hgl : ∀ p a, (g p a).1 ≤ a.1 := fun p a => by
    rw [hg]
    show (if stp M L p T p ≤ Li p then exW H w M L Li n (stp M L p T) (updN r (H - (n + 1)) p) a else a).1 ≤ a.1
    split
    · exact exW_le _ _ _ _
    · exact Nat.le_refl _
  rw [exW_s, ← hg] at hP
  have main : ∀ j p t4 t5 υ, p + j = w → chQ σ H h τ υ (fo g p a) → aE l (d + n + 3) none 8 cX8_chooseFrom none P 13 [some (.ref 91), some (.ref 9), some (.int (nI h)), some (.int (nI p)), ti t4, ti t5] [] υ := by
    intro j
    induction j with
    | zero =>
      intro p t4 t5 υ hpj hυ
      have hpj : p = w := by omega
      subst hpj
      have e1 : nI p ≤ nI p := (nile (by omega) (by omega)).mpr (Nat.le_refl _)
      have u9 : υ 9 = σ 9 := hυ.1 9 (Or.inl (by omega))
      simp only [eX8_chooseFrom_13, eX8_chooseFrom_14, eX8_chooseFrom_15, eX8_chooseFrom_18, eX8_chooseFrom_144, fx0, fx1, fx2, fx3, fx4, nl_int, nl_ref, nl_none, nl_ti, rz_nil, rz_int, rz_ref, rz_long, cf1, cf2, Option.toList_some, Option.toList_none, List.cons_append, List.nil_append, u9, hw, e1, if_true]
      exact hP υ hυ
    | succ j ihj =>
      intro p t4 t5 υ hpj hυ
      have e1 : ¬ nI w ≤ nI p := by rw [nile (by omega) (by omega)]; omega
      have e2 : ¬ (6 : Int32) ≤ nI p := by rw [show (6 : Int32) = nI 6 from rfl, nile (by omega) (by omega)]; omega
      have hup := hυ
      obtain ⟨u1, u2, u3, u4, u5⟩ := hυ
      have u9 : υ 9 = σ 9 := u1 9 (Or.inl (by omega))
      have hacc : (fo g p a).1 ≤ 200 := Nat.le_trans (fo_le hgl p a) ha
      rw [eX8_chooseFrom_13]
      simp only [eX8_chooseFrom_14, eX8_chooseFrom_15, eX8_chooseFrom_18, eX8_chooseFrom_21, eX8_chooseFrom_22, eX8_chooseFrom_24, eX8_chooseFrom_27, eX8_chooseFrom_28, eX8_chooseFrom_31, eX8_chooseFrom_32, eX8_chooseFrom_33, eX8_chooseFrom_34, eX8_chooseFrom_35, eX8_chooseFrom_38, eX8_chooseFrom_39, eX8_chooseFrom_40, eX8_chooseFrom_41, eX8_chooseFrom_42, eX8_chooseFrom_43, eX8_chooseFrom_45, eX8_chooseFrom_48, eX8_chooseFrom_49, eX8_chooseFrom_52, eX8_chooseFrom_53, eX8_chooseFrom_54, eX8_chooseFrom_55, eX8_chooseFrom_56, eX8_chooseFrom_57, eX8_chooseFrom_60, eX8_chooseFrom_61, eX8_chooseFrom_62, eX8_chooseFrom_63, eX8_chooseFrom_64, eX8_chooseFrom_65, eX8_chooseFrom_66, eX8_chooseFrom_67, fx0, fx1, fx2, fx3, fx4, nl_int, nl_ref, nl_none, nl_ti, rz_nil, rz_int, rz_ref, rz_long, cf1, cf2, Option.toList_some, Option.toList_none, List.cons_append, List.nil_append, u9, hw, e1, e2, if_false, or_true, hin6, hin7, hin8, hcl, hcl2, true_and, nI_1, f1, f2, f3, g1, g2, g3, Nat.le_refl, sy_sr]
      generalize hτ2 : su (sr υ (94 + (h + 1)) (pre 6 (υ (94 + h)) (υ (94 + (h + 1))))) 101 h (nI p) = τ2
      have z1 : ∀ c, c ≠ 101 → c ≠ 94 + (h + 1) → τ2 c = υ c := fun c c1 c2 => by rw [← hτ2, su_ne c1, sr_ne c2]
      have z101 : ∀ k, τ2 101 k = if k = h then nI p else υ 101 k := fun k => by rw [← hτ2, su_at, sr_ne (show (101 : Nat) ≠ 94 + (h + 1) by omega)]
      have zT : ∀ q, q < w → τ2 (94 + (h + 1)) q = nI (T q) := fun q hq => by
        rw [← hτ2, su_ne (by omega), sr_eq, u2 h (Nat.le_refl h), ← p2 q hq]
        exact if_pos (by omega)
      have z9 : τ2 9 = σ 9 := (z1 9 (by omega) (by omega)).trans u9
      have z11 : τ2 11 = σ 11 := (z1 11 (by omega) (by omega)).trans (u1 11 (Or.inl (by omega)))
      have z12 : τ2 12 = σ 12 := (z1 12 (by omega) (by omega)).trans (u1 12 (Or.inl (by omega)))
      have z13 : τ2 13 = σ 13 := (z1 13 (by omega) (by omega)).trans (u1 13 (Or.inl (by omega)))
      simp only [eX8_chooseFrom_68, fx0, fx1, fx2, fx3, fx4, nl_int, nl_ref, nl_none, nl_ti, rz_nil, rz_int, rz_ref, rz_long, cf1, cf2, Option.toList_some, Option.toList_none, List.cons_append, List.nil_append]
      refine aC.of (c_spendHour (w := w) (Or.inr rfl) g2 g3 (Or.inr (by omega)) (by rw [z9]; exact hw) hw6) ?_
      have hnod : (nS τ2 9 (94 + (h + 1)) ((1 : Int32) <<< (nI p &&& 31)) 0 w = 0) = (stp M L p T p ≤ Li p) := by
        show (nodS _ 0 (τ2 9 3) (τ2 11) (τ2 12) (τ2 13) (τ2 (94 + (h + 1))) w = 0) = _
        rw [z11, z12, z13]
        exact nod_stp (by omega) hw6 (fun q hq => ⟨zT q hq, hT q hq⟩) hM hL hLi
      generalize hτ3 : sr τ2 (94 + (h + 1)) (pre w (tR τ2 9 (94 + (h + 1)) ((1 : Int32) <<< (nI p &&& 31)) 0) (τ2 (94 + (h + 1)))) = τ3
      have y1 : ∀ c, c ≠ 94 + (h + 1) → τ3 c = τ2 c := fun c c1 => by rw [← hτ3, sr_ne c1]
      have y0 : ∀ c, c ≠ 101 → c ≠ 94 + (h + 1) → τ3 c = υ c := fun c c1 c2 => (y1 c c2).trans (z1 c c1 c2)
      have y101 : ∀ k, τ3 101 k = if k = h then nI p else υ 101 k := fun k => by rw [y1 101 (by omega)]; exact z101 k
      have yT : ∀ q, q < w → τ3 (94 + (h + 1)) q = nI (stp M L p T q) := fun q hq => by
        rw [← hτ3, sr_eq]
        unfold pre
        rw [if_pos hq]
        show tE _ 0 (τ2 9 3) (τ2 11 q) (τ2 12 q) (τ2 (94 + (h + 1)) q) q = _
        rw [z11, z12, (hM q hq).1, (hL q hq).1, zT q hq]
        exact tE_stp (by omega) (by omega) (hT q hq) (hM q hq).2 (hL q hq).2
      have y9 : τ3 9 = σ 9 := (y1 9 (by omega)).trans z9
      have y12 : τ3 12 = σ 12 := (y1 12 (by omega)).trans z12
      have yout : ∀ c, c ≤ 90 ∨ 103 ≤ c → τ3 c = σ c := fun c hc => (y0 c (by omega) (by omega)).trans (u1 c hc)
      have yrow : ∀ j, j ≤ h → τ3 (94 + j) = τ (94 + j) := fun j hj => (y0 (94 + j) (by omega) (by omega)).trans (u2 j hj)
      have ych : ∀ j, j < h → τ3 101 j = τ 101 j := fun j hj => by rw [y101 j, if_neg (by omega)]; exact u3 j hj
      have y91 : τ3 91 1 = nI (fo g p a).1 := by rw [y0 91 (by omega) (by omega)]; exact u4
      have y92 : (fo g p a).1 = 200 ∨ ∀ j, j < H → τ3 92 j = nI ((fo g p a).2 j) := by rw [y0 92 (by omega) (by omega)]; exact u5
      have hskip : g p (fo g p a) = fo g p a → ∀ t4 t5, aE l (d + n + 3) none 8 cX8_chooseFrom none P 138 [some (.ref 91), some (.ref 9), some (.int (nI h)), some (.int (nI p)), ti t4, ti t5] [] τ3 := by
        intro e t4 t5
        rw [eX8_chooseFrom_138 (by rfl)]
        simp only [eX8_chooseFrom_141, fx0, fx1, fx2, fx3, fx4, nl_int, nl_ref, nl_none, nl_ti, rz_nil, rz_int, rz_ref, rz_long, cf1, cf2, Option.toList_some, Option.toList_none, List.cons_append, List.nil_append, nI_1]
        refine ihj (p + 1) t4 t5 τ3 (by omega) ?_
        rw [fo_s, e]
        exact ⟨yout, yrow, ych, y91, y92⟩
      have hgp : g p (fo g p a) = if stp M L p T p ≤ Li p then exW H w M L Li n (stp M L p T) (updN r h p) (fo g p a) else fo g p a := by
        rw [hg, show H - (n + 1) = h by omega]
      by_cases e3 : stp M L p T p ≤ Li p
      · rw [if_pos e3] at hgp
        have e3' : nS τ2 9 (94 + (h + 1)) ((1 : Int32) <<< (nI p &&& 31)) 0 w = 0 := by rw [hnod]; exact e3
        have hleft : nI H - nI h - 1 = nI n := by
          rw [nI_sb (by omega), show (1 : Int32) = nI 1 from rfl, nI_sb (by omega), show H - h - 1 = n by omega]
        simp only [eX8_chooseFrom_71, eX8_chooseFrom_77, eX8_chooseFrom_78, eX8_chooseFrom_81, eX8_chooseFrom_82, eX8_chooseFrom_83, eX8_chooseFrom_84, eX8_chooseFrom_85, eX8_chooseFrom_87, eX8_chooseFrom_88, eX8_chooseFrom_89, eX8_chooseFrom_90, eX8_chooseFrom_93, eX8_chooseFrom_94, eX8_chooseFrom_95, eX8_chooseFrom_96, eX8_chooseFrom_97, fx0, fx1, fx2, fx3, fx4, nl_int, nl_ref, nl_none, nl_ti, rz_nil, rz_int, rz_ref, rz_long, cf1, cf2, Option.toList_some, Option.toList_none, List.cons_append, List.nil_append, e3', if_true, y9, hH, hleft, or_true, hin8, hcl2, true_and, nI_1, g1]
        rw [eX8_chooseFrom_99 (by rfl) (by simp [rsz])]
        refine aC.of (c_lpe (n := n) (L := L) (T := stp M L p T) g2 g3 (by rw [y9]; exact hw) hw6 (by omega) (fun q hq => ⟨yT q hq, stp_le hT q hq⟩) (fun q hq => by rw [y12]; exact hL q hq)) ?_
        have hE := lpN_le (L := L) (n := n) (T := stp M L p T) w (stp_le hT)
        simp only [eX8_chooseFrom_102, eX8_chooseFrom_104, eX8_chooseFrom_106, eX8_chooseFrom_107, fx0, fx1, fx2, fx3, fx4, nl_int, nl_ref, nl_none, nl_ti, rz_nil, rz_int, rz_ref, rz_long, cf1, cf2, Option.toList_some, Option.toList_none, List.cons_append, List.nil_append, y91]
        by_cases e4 : lpN L n (stp M L p T) w < (fo g p a).1
        · have e4' : nI (lpN L n (stp M L p T) w) < nI (fo g p a).1 := (nilt (by omega) (by omega)).mpr e4
          simp only [eX8_chooseFrom_110, eX8_chooseFrom_116, fx0, fx1, fx2, fx3, fx4, nl_int, nl_ref, nl_none, nl_ti, rz_nil, rz_int, rz_ref, rz_long, cf1, cf2, Option.toList_some, Option.toList_none, List.cons_append, List.nil_append, e4', if_true]
          by_cases en : n = 0
          · subst en
            have h4 : nI 0 ≤ 0 := by decide
            simp only [eX8_chooseFrom_118, eX8_chooseFrom_132, eX8_chooseFrom_133, fx0, fx1, fx2, fx3, fx4, nl_int, nl_ref, nl_none, nl_ti, rz_nil, rz_int, rz_ref, rz_long, cf1, cf2, Option.toList_some, Option.toList_none, List.cons_append, List.nil_append, h4, if_true]
            rw [eX8_chooseFrom_135 (by rfl) (by simp [rsz])]
            refine aC.of c_takeChosen ?_
            simp only [eX8_chooseFrom_138, eX8_chooseFrom_141, fx0, fx1, fx2, fx3, fx4, nl_int, nl_ref, nl_none, nl_ti, rz_nil, rz_int, rz_ref, rz_long, cf1, cf2, Option.toList_some, Option.toList_none, List.cons_append, List.nil_append, nI_1]
            refine ihj (p + 1) (some _) (some _) _ (by omega) ?_
            rw [fo_s, hgp, exW_0]
            unfold takeW
            rw [if_pos e4]
            refine ⟨fun c hc => ?_, fun j hj => ?_, fun j hj => ?_, ?_, Or.inr (fun j hj => ?_)⟩
            · rw [sr_ne (by omega), su_ne (by omega)]
              exact yout c hc
            · rw [sr_ne (by omega), su_ne (by omega)]
              exact yrow j hj
            · rw [sr_ne (by omega), su_ne (by omega)]
              exact ych j hj
            · rw [sr_ne (by omega), su_eq]
            · rw [sr_eq]
              unfold pre
              rw [if_pos (by omega), y101 j]
              show _ = nI (updN r h p j)
              unfold updN
              by_cases ej : j = h
              · rw [if_pos ej, if_pos ej]
              · rw [if_neg ej, if_neg ej, u3 j (by omega)]
                exact p3 j (by omega)
          · obtain ⟨n', rfl⟩ : ∃ n', n = n' + 1 := ⟨n - 1, by omega⟩
            have h4 : ¬ nI (n' + 1) ≤ 0 := nI_nle (by omega) (by omega)
            simp only [eX8_chooseFrom_118, eX8_chooseFrom_121, eX8_chooseFrom_122, eX8_chooseFrom_123, eX8_chooseFrom_124, eX8_chooseFrom_125, fx0, fx1, fx2, fx3, fx4, nl_int, nl_ref, nl_none, nl_ti, rz_nil, rz_int, rz_ref, rz_long, cf1, cf2, Option.toList_some, Option.toList_none, List.cons_append, List.nil_append, h4, if_false, nI_1]
            rw [eX8_chooseFrom_126 (by rfl) (by simp [rsz]), show d + (n' + 1) + 3 = d + n' + 4 by omega]
            refine ih n' rfl τ3 (stp M L p T) (updN r h p) (fo g p a) _ ⟨⟨yout, fun _ _ => rfl, fun _ _ => rfl, y91, y92⟩, yT, fun j hj => ?_⟩ hacc (stp_le hT) ?_
            · rw [y101 j]
              unfold updN
              by_cases ej : j = h
              · rw [if_pos ej, if_pos ej]
              · rw [if_neg ej, if_neg ej, u3 j (by omega)]
                exact p3 j (by omega)
            · intro τ' hq
              rw [show d + n' + 4 = d + (n' + 1) + 3 by omega]
              simp only [eX8_chooseFrom_129, eX8_chooseFrom_138, eX8_chooseFrom_141, fx0, fx1, fx2, fx3, fx4, nl_int, nl_ref, nl_none, nl_ti, rz_nil, rz_int, rz_ref, rz_long, cf1, cf2, Option.toList_some, Option.toList_none, List.cons_append, List.nil_append, nI_1]
              refine ihj (p + 1) (some _) (some _) _ (by omega) ?_
              rw [fo_s, hgp]
              obtain ⟨a1, a2, a3, a4, a5⟩ := hq
              exact ⟨a1, fun j hj => (a2 j (by omega)).trans (yrow j hj), fun j hj => (a3 j (by omega)).trans (ych j hj), a4, a5⟩
        · have e4' : ¬ nI (lpN L n (stp M L p T) w) < nI (fo g p a).1 := by rw [nilt (by omega) (by omega)]; exact e4
          simp only [eX8_chooseFrom_110, eX8_chooseFrom_113, fx0, fx1, fx2, fx3, fx4, nl_int, nl_ref, nl_none, nl_ti, rz_nil, rz_int, rz_ref, rz_long, cf1, cf2, Option.toList_some, Option.toList_none, List.cons_append, List.nil_append, e4', if_false]
          refine hskip ?_ (some _) (some _)
          rw [hgp]
          exact exW_prune n _ _ _ (stp_le hT) (by omega)
      · rw [if_neg e3] at hgp
        have e3' : ¬ nS τ2 9 (94 + (h + 1)) ((1 : Int32) <<< (nI p &&& 31)) 0 w = 0 := by rw [hnod]; exact e3
        simp only [eX8_chooseFrom_71, eX8_chooseFrom_74, fx0, fx1, fx2, fx3, fx4, nl_int, nl_ref, nl_none, nl_ti, rz_nil, rz_int, rz_ref, rz_long, cf1, cf2, Option.toList_some, Option.toList_none, List.cons_append, List.nil_append, e3', if_false]
        exact hskip hgp t4 t5
  exact main w 0 none none τ (by omega) ⟨q1, fun _ _ => rfl, fun _ _ => rfl, q4, q5⟩
theorem choose {H w : Nat} {M L Li : Nat → Nat} (hw : σ 9 4 = nI w) (hw6 : w ≤ 6) (hH : σ 9 0 = nI H) (hH6 : H ≤ 6) (hM : ∀ q, q < w → σ 11 q = nI (M q) ∧ M q ≤ 30) (hL : ∀ q, q < w → σ 12 q = nI (L q) ∧ L q ≤ 30) (hLi : ∀ q, q < w → σ 13 q = nI (Li q) ∧ Li q ≤ 99) : ∀ n h, h + (n + 1) = H → ∀ (τ : aW) (T r : Nat → Nat) (a : acW) (P : Option Value → aW → Prop), chP σ H w h τ T r a → a.1 ≤ 200 → (∀ q, q < w → T q ≤ 199) → (∀ τ', chQ σ H h τ τ' (exW H w M L Li (n + 1) T r a) → P none τ') → aC l (d + n + 4) 52 [.ref 91, .ref 9, .int (nI h)] τ P := by
  intro n
  induction n with
  | zero => exact fun h hh τ T r a P hp ha hT hP => choose_step hw hw6 hH hH6 hM hL hLi hh (fun n' hn => absurd hn (by omega)) τ T r a P hp ha hT hP
  | succ n ih =>
    intro h hh τ T r a P hp ha hT hP
    refine choose_step hw hw6 hH hH6 hM hL hLi hh (fun n' hn => ?_) τ T r a P hp ha hT hP
    obtain rfl : n' = n := by omega
    exact ih (h + 1) (by omega)
end CH
