/-! the best watches: the model's leaves -/
def wT (M L r T : Nat → Nat) : Nat → Nat → Nat
  | 0 => T
  | h + 1 => stp M L (r h) (wT M L r T h)
theorem wT_s (M L r T : Nat → Nat) (h : Nat) : wT M L r T (h + 1) = stp M L (r h) (wT M L r T h) := by rw [wT]
def wB (M L Li r T : Nat → Nat) : Nat → Bool
  | 0 => false
  | h + 1 => wB M L Li r T h || !decide (stp M L (r h) (wT M L r T h) (r h) ≤ Li (r h))
theorem wB_s (M L Li r T : Nat → Nat) (h : Nat) : wB M L Li r T (h + 1) = (wB M L Li r T h || !decide (stp M L (r h) (wT M L r T h) (r h) ≤ Li (r h))) := by rw [wB]
theorem wT_le {M L r T : Nat → Nat} {w : Nat} (hT : ∀ q, q < w → T q ≤ 199) : ∀ h q, q < w → wT M L r T h q ≤ 199 := by
  intro h
  induction h with
  | zero => exact hT
  | succ h ih => rw [wT_s]; exact stp_le ih
theorem wT_congr {M L r r' T : Nat → Nat} : ∀ h, (∀ j, j < h → r j = r' j) → wT M L r T h = wT M L r' T h := by
  intro h
  induction h with
  | zero => exact fun _ => rfl
  | succ h ih => intro e; rw [wT_s, wT_s, ih (fun j hj => e j (by omega)), e h (by omega)]
theorem wB_congr {M L Li r r' T : Nat → Nat} : ∀ h, (∀ j, j < h → r j = r' j) → wB M L Li r T h = wB M L Li r' T h := by
  intro h
  induction h with
  | zero => exact fun _ => rfl
  | succ h ih => intro e; rw [wB_s, wB_s, ih (fun j hj => e j (by omega)), e h (by omega), wT_congr h (fun j hj => e j (by omega))]
theorem and_abs (x y : Int32) : x &&& (x ||| y) = x := by
  apply Int32.toBitVec_inj.mp
  apply BitVec.eq_of_getLsbD_eq
  intro i hi
  simp only [Int32.toBitVec_or, Int32.toBitVec_and, BitVec.getLsbD_or, BitVec.getLsbD_and]
  cases x.toBitVec.getLsbD i <;> cases y.toBitVec.getLsbD i <;> rfl
theorem or_0 (x y : Int32) : (x ||| y = 0) = (x = 0 ∧ y = 0) := by
  apply propext
  constructor
  · intro h
    have h1 := and_abs x y
    have h2 := and_abs y x
    rw [h, Int32.and_zero] at h1
    rw [Int32.or_comm, h, Int32.and_zero] at h2
    exact ⟨h1.symm, h2.symm⟩
  · rintro ⟨rfl, rfl⟩
    rfl
section RW
variable {l : Launch} {d : Nat} {σ : aW}
theorem m_behindRow {H w : Nat} {M L Li T r : Nat → Nat} (hw : σ 109 4 = nI w) (hw6 : w ≤ 6) (hH : σ 109 0 = nI H) (hH6 : H ≤ 6) (hM : ∀ q, q < w → σ 110 q = nI (M q) ∧ M q ≤ 30) (hL : ∀ q, q < w → σ 111 q = nI (L q) ∧ L q ≤ 30) (hLi : ∀ q, q < w → σ 112 q = nI (Li q) ∧ Li q ≤ 99) (hT : ∀ q, q < w → σ 114 q = nI (T q) ∧ T q ≤ 199) (hs : ∀ q, q < 6 → σ 123 q = σ 114 q) (hr : ∀ j, j < H → σ 124 j = nI (r j) ∧ r j < w) : Sem l (d + 3) 128 [.ref 109] σ (some (.int (if wB M L Li r T H = true then -1 else nI (lpN L 0 (wT M L r T H) w)))) σ := by
  refine Sem_of rfl (Nat.le_of_ble_eq_true rfl) ?_
  show aE l (d + 2) none 10 cX10_behindRow (some .int) _ 0 [some (.ref 109), none, none, none] [] σ
  have hTT := wT_le (M := M) (L := L) (r := r) (fun q hq => (hT q hq).2)
  have two : ∀ (N : Int32) (F : Nat → Int32), (N = 0) = (wB M L Li r T H = false) → (∀ q, q < w → F q = nI (wT M L r T H q)) → (∀ q, w ≤ q → F q = σ 114 q) → ∀ j k, k + j = w → aE l (d + 2) none 10 cX10_behindRow (some .int) (fun r' σ'' => r' = some (.int (if wB M L Li r T H = true then -1 else nI (lpN L 0 (wT M L r T H) w))) ∧ σ'' = σ) 38 [some (.ref 109), some (.int N), some (.int (nI (lpN L 0 (wT M L r T H) k))), some (.int (nI k))] [] (sr σ 114 F) := by
    intro N F hN hF hF2 j
    induction j with
    | zero =>
      intro k hkn
      have hkn : k = w := by omega
      subst hkn
      have e1 : nI k ≤ nI k := (nile (by omega) (by omega)).mpr (Nat.le_refl _)
      simp only [eX10_behindRow_38, eX10_behindRow_39, eX10_behindRow_40, eX10_behindRow_43, eX10_behindRow_63, eX10_behindRow_64, fx0, fx1, fx2, fx3, fx4, nl_int, nl_ref, nl_none, nl_ti, rz_nil, rz_int, rz_ref, rz_long, cf1, cf2, Option.toList_some, Option.toList_none, List.cons_append, List.nil_append, su_at, su_ne, sr_eq, sr_ne, ne_eq, Nat.reduceEqDiff, not_false_eq_true, not_true_eq_false, if_true, if_false, hw, e1, if_true]
      refine aC.of m_putBack ?_
      rw [sr_sr, sr_eq, sr_ne (show (123 : Nat) ≠ 114 by decide), show pre 6 (σ 123) F = σ 114 from by
        funext q
        unfold pre
        by_cases e : q < 6
        · rw [if_pos e, hs q e]
        · rw [if_neg e, hF2 q (by omega)], sr_self]
      by_cases e : wB M L Li r T H = true
      · have hN' : ¬ N = 0 := by rw [hN, e]; decide
        simp only [eX10_behindRow_67, eX10_behindRow_68, eX10_behindRow_71, eX10_behindRow_72, eX10_behindRow_75, eX10_behindRow_76, fx0, fx1, fx2, fx3, fx4, nl_int, nl_ref, nl_none, nl_ti, rz_nil, rz_int, rz_ref, rz_long, cf1, cf2, Option.toList_some, Option.toList_none, List.cons_append, List.nil_append, hN', e, if_true, if_false, true_or, or_true, true_and, and_true, and_self]
      · have hN' : N = 0 := by rw [hN]; exact Bool.not_eq_true _ ▸ e
        simp only [eX10_behindRow_67, eX10_behindRow_68, eX10_behindRow_71, eX10_behindRow_72, eX10_behindRow_75, eX10_behindRow_76, fx0, fx1, fx2, fx3, fx4, nl_int, nl_ref, nl_none, nl_ti, rz_nil, rz_int, rz_ref, rz_long, cf1, cf2, Option.toList_some, Option.toList_none, List.cons_append, List.nil_append, hN', e, if_true, if_false, true_or, or_true, true_and, and_true, and_self, Bool.false_eq_true]
    | succ j ih =>
      intro k hkn
      have e1 : ¬ nI w ≤ nI k := by rw [nile (by omega) (by omega)]; omega
      have hin : vp_in (nI k) 19 := vin (by omega) (by omega)
      have hcl : (nI k).toNatClampNeg = k := nic (by omega)
      have key := ih (k + 1) (by omega)
      rw [lpN_s] at key
      have hb := lpN_le (L := L) (n := 0) (T := wT M L r T H) k (fun q hq => hTT H q (by omega))
      have hb2 := hTT H k (by omega)
      rw [eX10_behindRow_38]
      simp only [eX10_behindRow_39, eX10_behindRow_40, eX10_behindRow_43, eX10_behindRow_46, eX10_behindRow_47, eX10_behindRow_48, eX10_behindRow_51, eX10_behindRow_52, eX10_behindRow_53, fx0, fx1, fx2, fx3, fx4, nl_int, nl_ref, nl_none, nl_ti, rz_nil, rz_int, rz_ref, rz_long, cf1, cf2, Option.toList_some, Option.toList_none, List.cons_append, List.nil_append, su_at, su_ne, sr_eq, sr_ne, ne_eq, Nat.reduceEqDiff, not_false_eq_true, not_true_eq_false, if_true, if_false, hw, e1, if_false, hin, hcl, true_and, hF k (by omega)]
      refine aC.of m_atLeast ?_
      have hv : mx (nI (wT M L r T H k)) (nI (lpN L 0 (wT M L r T H) k)) = nI (max (lpN L 0 (wT M L r T H) k) (wT M L r T H k - L k * 0)) := by
        unfold mx
        rw [Nat.mul_zero, Nat.sub_zero]
        by_cases e4 : wT M L r T H k < lpN L 0 (wT M L r T H) k
        · rw [if_pos ((nilt (by omega) (by omega)).mpr e4), Nat.max_eq_left (by omega)]
        · rw [if_neg (by rw [nilt (by omega) (by omega)]; exact e4), Nat.max_eq_right (by omega)]
      simp only [eX10_behindRow_56, eX10_behindRow_57, eX10_behindRow_60, fx0, fx1, fx2, fx3, fx4, nl_int, nl_ref, nl_none, nl_ti, rz_nil, rz_int, rz_ref, rz_long, cf1, cf2, Option.toList_some, Option.toList_none, List.cons_append, List.nil_append, hv, nI_1]
      exact key
  have one : ∀ j k (N : Int32) (F : Nat → Int32), k + j = H → (N = 0) = (wB M L Li r T k = false) → (∀ q, q < w → F q = nI (wT M L r T k q)) → (∀ q, w ≤ q → F q = σ 114 q) → aE l (d + 2) none 10 cX10_behindRow (some .int) (fun r' σ'' => r' = some (.int (if wB M L Li r T H = true then -1 else nI (lpN L 0 (wT M L r T H) w))) ∧ σ'' = σ) 4 [some (.ref 109), some (.int N), some (.int (nI k)), none] [] (sr σ 114 F) := by
    intro j
    induction j with
    | zero =>
      intro k N F hkn hN hF hF2
      have hkn : k = H := by omega
      subst hkn
      have e1 : nI k ≤ nI k := (nile (by omega) (by omega)).mpr (Nat.le_refl _)
      rw [eX10_behindRow_4]
      simp only [eX10_behindRow_5, eX10_behindRow_6, eX10_behindRow_9, eX10_behindRow_34, eX10_behindRow_35, eX10_behindRow_36, eX10_behindRow_37, fx0, fx1, fx2, fx3, fx4, nl_int, nl_ref, nl_none, nl_ti, rz_nil, rz_int, rz_ref, rz_long, cf1, cf2, Option.toList_some, Option.toList_none, List.cons_append, List.nil_append, su_at, su_ne, sr_eq, sr_ne, ne_eq, Nat.reduceEqDiff, not_false_eq_true, not_true_eq_false, if_true, if_false, hH, e1, if_true]
      exact two N F hN hF hF2 w 0 (by omega)
    | succ j ih =>
      intro k N F hkn hN hF hF2
      have e1 : ¬ nI H ≤ nI k := by rw [nile (by omega) (by omega)]; omega
      have hin : vp_in (nI k) 6 := vin (by omega) (by omega)
      have hcl : (nI k).toNatClampNeg = k := nic (by omega)
      obtain ⟨r1, r2⟩ := hr k (by omega)
      rw [eX10_behindRow_4]
      simp only [eX10_behindRow_5, eX10_behindRow_6, eX10_behindRow_9, eX10_behindRow_12, eX10_behindRow_13, eX10_behindRow_14, eX10_behindRow_15, eX10_behindRow_16, eX10_behindRow_19, eX10_behindRow_20, eX10_behindRow_21, eX10_behindRow_22, eX10_behindRow_23, fx0, fx1, fx2, fx3, fx4, nl_int, nl_ref, nl_none, nl_ti, rz_nil, rz_int, rz_ref, rz_long, cf1, cf2, Option.toList_some, Option.toList_none, List.cons_append, List.nil_append, su_at, su_ne, sr_eq, sr_ne, ne_eq, Nat.reduceEqDiff, not_false_eq_true, not_true_eq_false, if_true, if_false, hH, e1, if_false, hin, hcl, true_and, r1]
      refine aC.of (m_tire (w := w) (by simp only [su_at, su_ne, sr_eq, sr_ne, ne_eq, Nat.reduceEqDiff, not_false_eq_true, not_true_eq_false, if_true, if_false]; exact hw) hw6) ?_
      simp only [eX10_behindRow_26, eX10_behindRow_27, eX10_behindRow_28, eX10_behindRow_31, fx0, fx1, fx2, fx3, fx4, nl_int, nl_ref, nl_none, nl_ti, rz_nil, rz_int, rz_ref, rz_long, cf1, cf2, Option.toList_some, Option.toList_none, List.cons_append, List.nil_append, sr_sr, nI_1]
      have hnod : (mnS (sr σ 114 F) ((1 : Int32) <<< (nI (r k) &&& 31)) 0 w = 0) = (stp M L (r k) (wT M L r T k) (r k) ≤ Li (r k)) := by
        show (nodS _ 0 (σ 109 3) (σ 110) (σ 111) (σ 112) F w = 0) = _
        exact nod_stp r2 hw6 (fun q hq => ⟨hF q hq, hTT k q hq⟩) hM hL hLi
      refine ih (k + 1) _ _ (by omega) ?_ (fun q hq => ?_) (fun q hq => ?_)
      · rw [or_0, hnod, hN, wB_s]
        apply propext
        simp
      · rw [sr_eq]
        unfold pre
        rw [if_pos hq, wT_s]
        show tE _ 0 (σ 109 3) (σ 110 q) (σ 111 q) (F q) q = _
        rw [(hM q hq).1, (hL q hq).1, hF q hq]
        exact tE_stp (by omega) (by omega) (hTT k q hq) (hM q hq).2 (hL q hq).2
      · rw [sr_eq]
        unfold pre
        rw [if_neg (by omega)]
        exact hF2 q hq
  simp only [eX10_behindRow_0, eX10_behindRow_1, eX10_behindRow_2, eX10_behindRow_3, fx0, fx1, fx2, fx3, fx4, nl_int, nl_ref, nl_none, nl_ti, rz_nil, rz_int, rz_ref, rz_long, cf1, cf2, Option.toList_some, Option.toList_none, List.cons_append, List.nil_append]
  have := one H 0 0 (σ 114) (by omega) (by rw [show wB M L Li r T 0 = false from rfl]; simp) (fun q hq => (hT q hq).1) (fun q _ => rfl)
  rw [sr_self] at this
  exact this
def zr (H k : Nat) (R : Nat → Int32) : Nat → Int32 := fun j => if k ≤ j ∧ j < H then 0 else R j
theorem zr_up {H k : Nat} {R : Nat → Int32} (hk : k < H) : upd (zr H (k + 1) R) k 0 = zr H k R := by
  funext j
  unfold upd zr
  by_cases e : j = k
  · rw [if_pos e, if_pos (by omega)]
  · rw [if_neg e]
    by_cases e2 : k + 1 ≤ j ∧ j < H
    · rw [if_pos e2, if_pos (by omega)]
    · rw [if_neg e2, if_neg (by omega)]
theorem zr_H {H : Nat} {R : Nat → Int32} : zr H H R = R := by
  funext j
  unfold zr
  exact if_neg (by omega)
theorem next_1 {Q : Option Value → aW → Prop} {H w k : Nat} (hw : σ 109 4 = nI w) (hw6 : w ≤ 6) (hH6 : H ≤ 6) (hk : k < H) (hwk : σ 124 k = nI (w - 1)) (hw1 : 1 ≤ w) (hK : aE l d none 10 cX10_nextRow (some .boolean) Q 7 [some (.ref 109), some (.int (nI k + (-1)))] [] (sr σ 124 (zr H k (σ 124)))) : aE l d none 10 cX10_nextRow (some .boolean) Q 7 [some (.ref 109), some (.int (nI k))] [] (sr σ 124 (zr H (k + 1) (σ 124))) := by
  have h0 : ¬ nI k < 0 := nI_pos (by omega)
  have hin : vp_in (nI k) 6 := vin (by omega) (by omega)
  have hcl : (nI k).toNatClampNeg = k := nic (by omega)
  have hz : zr H (k + 1) (σ 124) k = nI (w - 1) := by unfold zr; rw [if_neg (by omega), hwk]
  have hws : nI w - 1 = nI (w - 1) := by rw [show (1 : Int32) = nI 1 from rfl, nI_sb (by omega)]
  rw [eX10_nextRow_7]
  simp only [eX10_nextRow_8, eX10_nextRow_11, eX10_nextRow_12, eX10_nextRow_15, eX10_nextRow_16, eX10_nextRow_17, eX10_nextRow_18, eX10_nextRow_21, eX10_nextRow_22, eX10_nextRow_23, eX10_nextRow_26, eX10_nextRow_27, eX10_nextRow_30, eX10_nextRow_31, eX10_nextRow_32, eX10_nextRow_33, eX10_nextRow_36, fx0, fx1, fx2, fx3, fx4, nl_int, nl_ref, nl_none, nl_ti, rz_nil, rz_int, rz_ref, rz_long, cf1, cf2, Option.toList_some, Option.toList_none, List.cons_append, List.nil_append, su_at, su_ne, sr_eq, sr_ne, ne_eq, Nat.reduceEqDiff, not_false_eq_true, not_true_eq_false, if_true, if_false, h0, if_true, if_false, hin, hcl, true_and, hz, hw, hws, su_sr, zr_up hk]
  exact hK
theorem m_next {H w h p : Nat} (hw : σ 109 4 = nI w) (hw6 : w ≤ 6) (hH : σ 109 0 = nI H) (hH6 : H ≤ 6) (hh : h < H) (hp : p + 1 < w) (hrp : σ 124 h = nI p) (hs : ∀ j, h < j → j < H → σ 124 j = nI (w - 1)) : Sem l (d + 1) 129 [.ref 109] σ (some (.int 1)) (sr σ 124 (upd (zr H (h + 1) (σ 124)) h (nI (p + 1)))) := by
  refine Sem_of rfl (Nat.le_of_ble_eq_true rfl) ?_
  show aE l d none 10 cX10_nextRow (some .boolean) _ 0 [some (.ref 109), none] [] σ
  have hws : nI w - 1 = nI (w - 1) := by rw [show (1 : Int32) = nI 1 from rfl, nI_sb (by omega)]
  have main : ∀ n k, h + n = k → k < H → aE l d none 10 cX10_nextRow (some .boolean) (fun r' σ'' => r' = some (.int 1) ∧ σ'' = sr σ 124 (upd (zr H (h + 1) (σ 124)) h (nI (p + 1)))) 7 [some (.ref 109), some (.int (nI k))] [] (sr σ 124 (zr H (k + 1) (σ 124))) := by
    intro n
    induction n with
    | zero =>
      intro k hkn hkH
      have hkn : k = h := by omega
      subst hkn
      have h0 : ¬ nI k < 0 := nI_pos (by omega)
      have hin : vp_in (nI k) 6 := vin (by omega) (by omega)
      have hcl : (nI k).toNatClampNeg = k := nic (by omega)
      have hz : zr H (k + 1) (σ 124) k = nI p := by unfold zr; rw [if_neg (by omega), hrp]
      have hne : ¬ nI p = nI (w - 1) := fun e => by have := (nieq (by omega) (by omega)).mp e; omega
      rw [eX10_nextRow_7]
      simp only [eX10_nextRow_8, eX10_nextRow_11, eX10_nextRow_12, eX10_nextRow_15, eX10_nextRow_16, eX10_nextRow_17, eX10_nextRow_18, eX10_nextRow_21, eX10_nextRow_22, eX10_nextRow_23, eX10_nextRow_39, eX10_nextRow_40, eX10_nextRow_43, eX10_nextRow_44, eX10_nextRow_47, eX10_nextRow_48, eX10_nextRow_49, eX10_nextRow_50, eX10_nextRow_51, eX10_nextRow_52, eX10_nextRow_53, eX10_nextRow_54, eX10_nextRow_57, eX10_nextRow_58, eX10_nextRow_61, eX10_nextRow_62, fx0, fx1, fx2, fx3, fx4, nl_int, nl_ref, nl_none, nl_ti, rz_nil, rz_int, rz_ref, rz_long, cf1, cf2, Option.toList_some, Option.toList_none, List.cons_append, List.nil_append, su_at, su_ne, sr_eq, sr_ne, ne_eq, Nat.reduceEqDiff, not_false_eq_true, not_true_eq_false, if_true, if_false, h0, if_false, hin, hcl, true_and, hz, hw, hws, hne, su_sr, nI_1, true_or, or_true, true_and, and_true, and_self, vp_nar]
    | succ n ih =>
      intro k hkn hkH
      refine next_1 hw hw6 hH6 hkH (hs k (by omega) hkH) (by omega) ?_
      obtain ⟨k', rfl⟩ : ∃ k', k = k' + 1 := ⟨k - 1, by omega⟩
      rw [nI_m1]
      exact ih k' (by omega) (by omega)
  have hHs : nI H - 1 = nI (H - 1) := by rw [show (1 : Int32) = nI 1 from rfl, nI_sb (by omega)]
  simp only [eX10_nextRow_0, eX10_nextRow_1, eX10_nextRow_4, eX10_nextRow_5, eX10_nextRow_6, fx0, fx1, fx2, fx3, fx4, nl_int, nl_ref, nl_none, nl_ti, rz_nil, rz_int, rz_ref, rz_long, cf1, cf2, Option.toList_some, Option.toList_none, List.cons_append, List.nil_append, hH, hHs]
  have := main (H - 1 - h) (H - 1) (by omega) (by omega)
  rw [show H - 1 + 1 = H by omega, zr_H, sr_self] at this
  exact this
theorem m_nextE {H w : Nat} (hw : σ 109 4 = nI w) (hw6 : w ≤ 6) (hH : σ 109 0 = nI H) (hH6 : H ≤ 6) (hH1 : 1 ≤ H) (hw1 : 1 ≤ w) (hs : ∀ j, j < H → σ 124 j = nI (w - 1)) : Sem l (d + 1) 129 [.ref 109] σ (some (.int 0)) (sr σ 124 (zr H 0 (σ 124))) := by
  refine Sem_of rfl (Nat.le_of_ble_eq_true rfl) ?_
  show aE l d none 10 cX10_nextRow (some .boolean) _ 0 [some (.ref 109), none] [] σ
  have main : ∀ k, k < H → aE l d none 10 cX10_nextRow (some .boolean) (fun r' σ'' => r' = some (.int 0) ∧ σ'' = sr σ 124 (zr H 0 (σ 124))) 7 [some (.ref 109), some (.int (nI k))] [] (sr σ 124 (zr H (k + 1) (σ 124))) := by
    intro k
    induction k with
    | zero =>
      intro hk
      refine next_1 hw hw6 hH6 hk (hs 0 hk) hw1 ?_
      rw [show nI 0 + (-1) = -1 from rfl, eX10_nextRow_7]
      simp only [eX10_nextRow_8, eX10_nextRow_39, eX10_nextRow_40, eX10_nextRow_43, eX10_nextRow_44, eX10_nextRow_47, eX10_nextRow_48, eX10_nextRow_49, eX10_nextRow_50, eX10_nextRow_51, eX10_nextRow_52, eX10_nextRow_53, eX10_nextRow_54, eX10_nextRow_57, eX10_nextRow_58, eX10_nextRow_61, eX10_nextRow_62, fx0, fx1, fx2, fx3, fx4, nl_int, nl_ref, nl_none, nl_ti, rz_nil, rz_int, rz_ref, rz_long, cf1, cf2, Option.toList_some, Option.toList_none, List.cons_append, List.nil_append, show (-1 : Int32) < 0 by decide, if_true, true_or, or_true, true_and, and_true, and_self, vp_nar]
    | succ k ih =>
      intro hk
      refine next_1 hw hw6 hH6 hk (hs (k + 1) hk) hw1 ?_
      rw [nI_m1]
      exact ih (by omega)
  have hHs : nI H - 1 = nI (H - 1) := by rw [show (1 : Int32) = nI 1 from rfl, nI_sb (by omega)]
  simp only [eX10_nextRow_0, eX10_nextRow_1, eX10_nextRow_4, eX10_nextRow_5, eX10_nextRow_6, fx0, fx1, fx2, fx3, fx4, nl_int, nl_ref, nl_none, nl_ti, rz_nil, rz_int, rz_ref, rz_long, cf1, cf2, Option.toList_some, Option.toList_none, List.cons_append, List.nil_append, hH, hHs]
  have := main (H - 1) (by omega)
  rw [show H - 1 + 1 = H by omega, zr_H, sr_self] at this
  exact this
end RW
