/-! THE LAW, from its entry -/
theorem nwt_has : ∀ ci, ci < 11 → ∃ q ∈ nwt, q.2.2 = ci := by decide +kernel
theorem known_all {s : State} {args : Array Value} (hts : ∀ w ∈ gw, w.before args s = true) : ∃ G : va_G, ∀ (k : Nat) (q : vw_C), classes[k]? = some q → u_Kn s q.1 q.2.1 q.2.2 (G.1 k) (G.2 k) := by
  have hex : ∀ k : Nat, ∃ x : ClassId × (Nat → Nat), ∀ q : vw_C, classes[k]? = some q → u_Kn s q.1 q.2.1 q.2.2 x.1 x.2 := by
    intro k
    cases hq : classes[k]? with
    | none => exact ⟨(0, fun _ => 0), (fun q h => by cases h)⟩
    | some q0 =>
      have hk : k < 11 := (List.getElem?_eq_some_iff.mp hq).1
      obtain ⟨r, hr, rfl⟩ := nwt_has k hk
      obtain ⟨C, T, N, ty, k1, k2, k3, k4, k5, k6, k7⟩ := nwt_ok r hr
      rw [hq] at k1
      cases k1
      have okc := classes_ok _ (List.mem_of_getElem? hq)
      obtain ⟨cC, iS, hK⟩ := u_known (n := N) hts okc.1 (hts _ k3)
      exact ⟨(cC, iS), (fun q h => by cases h; exact hK)⟩
  obtain ⟨F, hF⟩ := Classical.axiomOfChoice hex
  exact ⟨(fun k => (F k).1, fun k => (F k).2), fun k q h => hF k q h⟩
theorem mkK_all {s : State} {args : Array Value} (hts : ∀ w ∈ lw_tbl, w.before args s = true) : ∃ γ : mkG, mkK γ s := by
  have hgw : ∀ w ∈ gw, w.before args s = true := fun w hw => hts w (List.mem_filter.mp hw).1
  obtain ⟨G, hG⟩ := known_all hgw
  obtain ⟨cI, kI, ceI, i1, i2, i3⟩ := Cond.arrayClass_spec (hgw _ ac_int)
  obtain ⟨cB, kB, ceB, b1, b2, b3⟩ := Cond.arrayClass_spec (hgw _ ac_boolean)
  obtain ⟨coS, cS, kS, s1, -, s3, s4, s5⟩ := Cond.arrayOver_spec (hts _ ov_state)
  obtain ⟨coR, cR, kR, r1, -, r3, r4, r5⟩ := arrayOverA_spec (hts _ ov_rows)
  have i1' : s.vm.findClass "[I" = some cI := i1
  have r1' : s.vm.findClass "[I" = some coR := r1
  cases i1'.symm.trans r1'
  refine ⟨(G, fun k => if k = 0 then cI else if k = 1 then cB else if k = 2 then cS else cR), ⟨hG, fun k q hq => ?_⟩, ⟨kR, kI, ceI, r3, r4, i2, i3⟩, fun q hq => va_Nw.of rfl (hts _ (nstt_ok q hq)), va_AO.of (hts _ ov_state)⟩
  have hk : k < 4 := (List.getElem?_eq_some_iff.mp hq).1
  rcases (show k = 0 ∨ k = 1 ∨ k = 2 ∨ k = 3 by omega) with rfl | rfl | rfl | rfl
  · cases hq
    exact ⟨fun N z => ⟨(fun k h => by cases h), kI, i2, ceI, i3⟩, i1⟩
  · cases hq
    exact ⟨fun N z => ⟨(fun k h => by cases h), kB, b2, ceB, b3⟩, b1⟩
  · cases hq
    exact ⟨fun N z => ⟨(fun k h => by cases h), kS, s3, coS, s4⟩, kS, coS, s3, s4, s1, s5⟩
  · cases hq
    exact ⟨fun N z => ⟨(fun k h => by cases h), kR, r3, cI, r4⟩, r5⟩
theorem nw0_in : nw0 ∈ lw_tbl := List.mem_of_getElem? (i := 631) (by decide +kernel)
set_option maxHeartbeats 4000000 in
theorem whole_start {p : Program} {e : Env} {s : State} {m : MethodId} {below : List Frame} {meth : Method} {c : Code} (l : Launch) (hflags : l.flags = flags0) {b L : Nat} {xs : Nat → Int32} (hL : L ≤ 256) (C0 : lw_At p s m meth c b L xs) : W p l e room_1 s m #[Value.ref b] below meth c s.heap [] 0 0 (lw_Z below #[Value.ref b] s) (entryFrame m ([Value.ref b] : List Value).toArray 4) := by
  obtain ⟨hx, hb, hr, hml, hown, hts, hX, hbl, hlocks, hgv⟩ := id C0
  obtain ⟨γ, hK⟩ := mkK_all hts
  have hgw : ∀ w ∈ gw, w.before #[Value.ref b] s = true := fun w hw => hts w (List.mem_filter.mp hw).1
  obtain ⟨hs, cl, sl, hB, hlen, hcl, hsl, hcs⟩ := mkB_is
  have hownL : s.vm.findClass (cn 11) = some m.cls := hown
  have hC : mkT p room_1 s m #[Value.ref b] meth c γ (fun q => s.heap.size ≤ q) 4 11 code 4 := ⟨⟨hx, hb, hml, hownL⟩, hgw, hK, fun _ h => h, ⟨Nat.le_of_ble_eq_true rfl, Nat.le_of_ble_eq_true rfl⟩, fun h => absurd h (by decide)⟩
  rw [lg_entry_eq]
  obtain ⟨ad0, had0⟩ : ∃ ad0 : Nat → Nat, ad0 132 = b := ⟨fun _ => b, rfl⟩
  have hlo := ent_lo ad0 [.ref 132] 4 (Nat.le_of_ble_eq_true rfl)
  rw [show ([.ref 132] : List Value).map (rv ad0) = [.ref b] from by show [Value.ref (ad0 132)] = _; rw [had0]] at hlo
  refine mkR_sound (n0 := 0) (ad0 := ad0) (mkF_sound l 4) hC 40 0 _ [] [] 0 0 _ hB (Nat.le_trans hcl (Nat.le_of_ble_eq_true rfl)) (Nat.le_trans hsl (Nat.le_of_ble_eq_true rfl)) (fun ad H locs ls' hH => ?_) ad0 s.heap [] _ ⟨(fun k q h => by cases h), ⟨(fun i j p q h => by cases h), (fun k q h => by cases h)⟩, va_S.rf, hlo, fun _ _ => rfl, Nat.zero_le _⟩
  obtain ⟨hP, hD, hS, hl, hag, -⟩ := hH
  have hadb : ad 132 = b := (hag 132 (Or.inr rfl)).trans had0
  obtain ⟨g, hg⟩ : ∃ g : aG, g = (γ.1, ad, γ.2) := ⟨_, rfl⟩
  have g1 : g.1 = γ.1 := by rw [hg]
  have g2 : g.2.1 = ad := by rw [hg]
  have g3 : g.2.2 = γ.2 := by rw [hg]
  have hr0 : rws g σ0 = mkW γ ad hs := rws_0 g3 (fun t _ => by rw [g2]) hlen hcs
  have hat : ∀ i, i < NP → ∃ x, (mkW γ ad hs)[i]? = some (ad i, x) := fun i hi => by
    obtain ⟨c2, e1, -⟩ := hcs i hi
    exact ⟨mkE γ ad c2, by rw [mkW_at, e1]; rfl⟩
  have hCx : aCtx p room_1 s m #[Value.ref b] c g (fun q => s.heap.size ≤ q) 30 (some (L, xs)) 11 cL_law 4 cl sl := by
    refine ⟨hx, hb, hml, hownL, hgw, ?_, va_Nw.of rfl (hts _ nw0_in), fun i j hi hj e9 => ?_, fun i hi => ?_, fun _ h => h, ⟨Nat.le_of_ble_eq_true rfl, Nat.le_of_ble_eq_true rfl⟩, ⟨Nat.le_trans hcl (Nat.le_of_ble_eq_true rfl), Nat.le_trans hsl (Nat.le_of_ble_eq_true rfl)⟩, fun q hq => ?_⟩
    · unfold atys
      rw [g1, g3]
      exact hK.1
    · rw [g2] at e9
      obtain ⟨x, hx1⟩ := hat i hi
      obtain ⟨y, hy1⟩ := hat j hj
      exact hD.1 i j _ _ hx1 hy1 e9
    · obtain ⟨x, hx1⟩ := hat i hi
      rw [g2]
      exact hD.2 i _ hx1
    · cases hq
      rw [g2, show ad NP = b from hadb]
      exact ⟨hX, hbl, Nat.not_le.mpr hbl⟩
  have hE : aEnd p l e room_1 s m #[Value.ref b] below meth c cl sl (lw_Z below #[Value.ref b] s) g (fun q => s.heap.size ≤ q) cL_law (some .boolean) lQ := by
    refine ⟨(fun σ H locs pc ls' hq hP hS hd hty => by cases hty), fun x σ H locs pc ls' hq hP hS hd hty => ?_⟩
    cases hq
    refine va_forget (fun q hq => hS.2.2 q hq) ?_
    refine W.widen (k := 600000) (n := 7302250) (Nat.le_trans hcl (Nat.le_of_ble_eq_true rfl)) (Nat.le_trans hsl (Nat.le_of_ble_eq_true rfl)) ?_
    exact lw_ret hx hb hr hlocks hd
  have hrun : lG l (L, xs) 0 σ0 := law_run hL L 0 σ0 (by show L ≤ 0 + L; omega) (by omega) Inv_0
  rw [← g2] at hl ⊢
  rw [← hr0, ← g1] at hP
  exact E_sound (st := []) hCx hE hrun hP hS hl
