/-! both objects made: what they are -/
def mkB : Option mkN := mkR (mkF 4) 11 code 18 40 0 [some (.ref 132), none, none, none] [] [] 0 0
/-- the state at the law's start -/
def σ0 : aW := fun p k => if (p = 1 ∧ k = 2) ∨ (p = 109 ∧ k = 14) then -1 else 0
def c0 (p : Nat) (c : mkC) : Bool := match shl[p]?, c with
  | some (.inl q), .inl r => q.1 == r.1 && (q.2.length == r.2.length && (List.range q.2.length).all (fun k => match q.2[k]?, r.2[k]? with
      | some none, some (.int v) => decide (v = σ0 p k)
      | some (some t), some (.ref a) => t == a && Nat.blt t 132
      | _, _ => false))
  | some (.inr q), .inr r => q.1 == r.1 && (q.2.1 == r.2.1 && (if q.1 < 2 then !(p == 1) && !(p == 109) else q.2.2.length == r.2.2.length && (List.range q.2.2.length).all (fun k => match q.2.2[k]?, r.2.2[k]? with
      | some t, some (some a) => t == a && Nat.blt t 132
      | _, _ => false)))
  | _, _ => false
def lsOK (ls : aL) : Bool := match ls with
  | [some (.ref a), some (.ref b), some (.ref c), some (.int v)] => a == 132 && (b == 0 && (c == 109 && decide (v = 0)))
  | _ => false
def mkOK : Bool := match mkB with
  | some r => r.1 == 18 && (r.2.2.1.isEmpty && (r.2.2.2.1.length == 132 && ((List.range 132).all (fun p => match r.2.2.2.1[p]? with
      | some c => c0 p c
      | none => false) && (Nat.ble r.2.2.2.2.1 132 && (Nat.ble r.2.2.2.2.2 100000 && lsOK r.2.1)))))
  | none => false
set_option maxRecDepth 100000 in
theorem mkOK_true : mkOK = true := by decide +kernel
theorem mkB_is : ∃ (hs : List mkC) (cl sl : Nat), mkB = some (18, [some (.ref 132), some (.ref 0), some (.ref 109), some (.int 0)], [], hs, cl, sl) ∧ hs.length = 132 ∧ cl ≤ 132 ∧ sl ≤ 100000 ∧ ∀ p, p < 132 → ∃ c, hs[p]? = some c ∧ c0 p c = true := by
  have h := mkOK_true
  unfold mkOK at h
  split at h
  · next r hr =>
    obtain ⟨pc, ls, st, hs, cl, sl⟩ := r
    obtain ⟨h1, h⟩ := Bool.and_eq_true_iff.mp h
    obtain ⟨h2, h⟩ := Bool.and_eq_true_iff.mp h
    obtain ⟨h3, h⟩ := Bool.and_eq_true_iff.mp h
    obtain ⟨h4, h⟩ := Bool.and_eq_true_iff.mp h
    obtain ⟨h5, h⟩ := Bool.and_eq_true_iff.mp h
    obtain ⟨h6, h7⟩ := Bool.and_eq_true_iff.mp h
    dsimp only at h1 h2 h3 h4 h5 h6 h7
    have h1 : pc = 18 := beq_iff_eq.mp h1
    have h2 : st = [] := List.isEmpty_iff.mp h2
    have h3 : hs.length = 132 := beq_iff_eq.mp h3
    have h7 : ls = [some (.ref 132), some (.ref 0), some (.ref 109), some (.int 0)] := by
      unfold lsOK at h7
      split at h7
      · next a b c v =>
        obtain ⟨a1, h7⟩ := Bool.and_eq_true_iff.mp h7
        obtain ⟨a2, h7⟩ := Bool.and_eq_true_iff.mp h7
        obtain ⟨a3, a4⟩ := Bool.and_eq_true_iff.mp h7
        rw [beq_iff_eq.mp a1, beq_iff_eq.mp a2, beq_iff_eq.mp a3, of_decide_eq_true a4]
      · cases h7
    subst h1
    subst h2
    subst h7
    refine ⟨hs, cl, sl, hr, h3, Nat.le_of_ble_eq_true h5, Nat.le_of_ble_eq_true h6, fun p hp => ?_⟩
    have h8 := List.all_eq_true.mp h4 p (List.mem_range.mpr hp)
    split at h8
    · next c hc => exact ⟨c, hc, h8⟩
    · cases h8
  · cases h
theorem c0_rc {γ : mkG} {g : aG} {ad : Nat → Nat} (h2 : g.2.2 = γ.2) (had : ∀ t, t < 132 → g.2.1 t = ad t) {p : Nat} {c : mkC} (h : c0 p c = true) : rc g p (σ0 p) = mkE γ ad c := by
  unfold c0 at h
  split at h
  · next q r hq =>
    obtain ⟨h1, h⟩ := Bool.and_eq_true_iff.mp h
    obtain ⟨h3, h4⟩ := Bool.and_eq_true_iff.mp h
    have h1 : q.1 = r.1 := beq_iff_eq.mp h1
    have h3 : q.2.length = r.2.length := beq_iff_eq.mp h3
    rw [rc_obj (ci := q.1) (sl := q.2) hq]
    show Sum.inr (q.1, rfs g.2.1 (σ0 p) q.2) = Sum.inr (r.1, r.2.map (rv ad))
    rw [h1]
    congr 2
    apply List.ext_getElem?
    intro k
    rw [rfs_at, List.getElem?_map]
    by_cases hk : k < q.2.length
    · have h5 := List.all_eq_true.mp h4 k (List.mem_range.mpr hk)
      split at h5
      · next v e1 e2 =>
        rw [e1, e2, of_decide_eq_true h5]
        rfl
      · next t a e1 e2 =>
        obtain ⟨h6, h7⟩ := Bool.and_eq_true_iff.mp h5
        rw [e1, e2, ← beq_iff_eq.mp h6]
        exact congrArg (fun x => some (Value.ref x)) (had t (blt_of h7))
      · cases h5
    · rw [List.getElem?_eq_none (by omega), List.getElem?_eq_none (by omega)]
      rfl
  · next q r hq =>
    obtain ⟨h1, h⟩ := Bool.and_eq_true_iff.mp h
    obtain ⟨h3, h4⟩ := Bool.and_eq_true_iff.mp h
    have h1 : q.1 = r.1 := beq_iff_eq.mp h1
    have h3 : q.2.1 = r.2.1 := beq_iff_eq.mp h3
    by_cases hk : q.1 < 2
    · rw [if_pos hk] at h4
      obtain ⟨h5, h6⟩ := Bool.and_eq_true_iff.mp h4
      have z : σ0 p = fun _ => 0 := by
        funext k
        refine if_neg ?_
        rintro (⟨e, -⟩ | ⟨e, -⟩)
        · subst e; cases h5
        · subst e; cases h6
      rw [rc_arr (k := q.1) (n := q.2.1) (t := q.2.2) hq hk, z, h2]
      unfold mkE
      dsimp only
      rw [h1] at hk
      rw [if_pos hk, h1, h3]
    · rw [if_neg hk] at h4
      obtain ⟨h5, h6⟩ := Bool.and_eq_true_iff.mp h4
      have h5 : q.2.2.length = r.2.2.length := beq_iff_eq.mp h5
      rw [rc_ref (k := q.1) (n := q.2.1) (t := q.2.2) hq hk, h2]
      have e9 : (fun i : Nat => (q.2.2[i]?).map g.2.1) = fun i : Nat => ((r.2.2[i]?).join).map ad := by
        funext i
        by_cases hi : i < q.2.2.length
        · have h7 := List.all_eq_true.mp h6 i (List.mem_range.mpr hi)
          split at h7
          · next t a e1 e2 =>
            obtain ⟨h8, h9⟩ := Bool.and_eq_true_iff.mp h7
            rw [e1, e2, ← beq_iff_eq.mp h8]
            exact congrArg some (had t (blt_of h9))
          · cases h7
        · rw [List.getElem?_eq_none (by omega), List.getElem?_eq_none (by omega)]
          rfl
      unfold mkE
      dsimp only
      rw [h1] at hk
      rw [if_neg hk, h1, h3, e9]
  · cases h
theorem rws_0 {γ : mkG} {g : aG} {ad : Nat → Nat} {hs : List mkC} (h2 : g.2.2 = γ.2) (had : ∀ t, t < 132 → g.2.1 t = ad t) (hlen : hs.length = 132) (h : ∀ p, p < 132 → ∃ c, hs[p]? = some c ∧ c0 p c = true) : rws g σ0 = mkW γ ad hs := by
  apply List.ext_getElem?
  intro p
  by_cases hp : p < 132
  · obtain ⟨c, e1, e2⟩ := h p hp
    rw [rws_at g σ0 hp, mkW_at, e1, had p hp, c0_rc h2 had e2]
    rfl
  · rw [List.getElem?_eq_none (by rw [rws_len]; show 132 ≤ p; omega), List.getElem?_eq_none (by rw [mkW_len]; omega)]
theorem σ0_z {a : Nat} (h1 : a ≠ 1) (h2 : a ≠ 109) (k : Nat) : σ0 a k = 0 := if_neg (by omega)
theorem σ0_1 {k : Nat} (h : k ≠ 2) : σ0 1 k = 0 := if_neg (by omega)
theorem σ0_9 {k : Nat} (h : k ≠ 14) : σ0 109 k = 0 := if_neg (by omega)
theorem Inv_0 : Inv σ0 := by
  refine ⟨0, 0, 0, ⟨⟨σ0_z (by decide) (by decide) _, σ0_9 (by decide), by decide⟩, ⟨σ0_z (by decide) (by decide) _, σ0_9 (by decide), by decide⟩, ⟨by decide, σ0_z (by decide) (by decide) _, σ0_9 (by decide), fun _ => ⟨rfl, rfl⟩⟩, ⟨?_, ?_, ?_, ?_⟩, fun p hp => absurd hp (Nat.not_lt_zero p), fun q hq => absurd hq (Nat.not_lt_zero q)⟩, ⟨⟨fun p hp => absurd hp (Nat.not_lt_zero p), fun p hp => ?_, fun k hk => ?_⟩, ⟨fun p hp => absurd hp (Nat.not_lt_zero p), ⟨0, by decide, σ0_z (by decide) (by decide) _, fun p hp => ⟨0, by decide, σ0_z (by decide) (by decide) _⟩⟩, fun p h1 h2 => σ0_z (by decide) (by decide) _⟩⟩, ⟨0, σ0_9 (by decide), ⟨by decide, σ0_z (by decide) (by decide) _, 0, by decide, σ0_z (by decide) (by decide) _, fun j hj => absurd hj (Nat.not_lt_zero j)⟩, fun j hj => absurd hj (Nat.not_lt_zero j)⟩, fun i hi => ?_, ⟨?_, ?_⟩, ⟨0, by decide, σ0_z (by decide) (by decide) _, σ0_9 (by decide), fun j hj => absurd hj (Nat.not_lt_zero j)⟩, ⟨0, by decide, σ0_z (by decide) (by decide) _, σ0_9 (by decide), fun j hj => absurd hj (Nat.not_lt_zero j)⟩, ⟨rfl, 0, by decide, σ0_1 (by decide), σ0_9 (by decide), fun j hj => absurd hj (Nat.not_lt_zero j)⟩⟩
  · rw [σ0_z (by decide) (by decide), σ0_9 (by decide)]
  · rw [σ0_z (by decide) (by decide), σ0_9 (by decide)]
  · rw [σ0_z (by decide) (by decide), σ0_9 (by decide)]
  · exact ⟨0, by decide, σ0_z (by decide) (by decide) _⟩
  · rw [σ0_z (by decide) (by decide), σ0_z (by decide) (by decide)]
  · rw [σ0_z (by decide) (by decide), σ0_z (by decide) (by decide)]
  · rw [σ0_z (by decide) (by decide), σ0_z (by decide) (by decide)]
    exact ⟨rfl, Or.inl rfl⟩
  · rw [σ0_z (by decide) (by decide), σ0_9 (by decide)]
  · rw [σ0_z (by decide) (by decide)]
    decide
