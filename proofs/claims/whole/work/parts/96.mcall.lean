/-! the making is sound: rows of rows, calls, the run -/
section MS3
variable {p : Program} {l : Launch} {e : Env} {R : Room} {s : State} {m : MethodId} {args : Array Value} {below : List Frame} {meth : Method} {c : Code} {Z : State → Prop} {γ : mkG} {A : Nat → Prop} {d o : Nat} {cc : ByteArray} {nL n0 : Nat} {ad0 : Nat → Nat}
variable {pc : Nat} {ls : aL} {st : List Value} {hs : List mkC} {cl sl : Nat} {ad : Nat → Nat} {H : Heap} {locs : List Loc} {ls' : Array Slot} {r : mkN}
theorem z_MM {x : Nat} (hC : mkT p R s m args meth c γ A d o cc nL) (hd : decode cc pc = .ok (.multianewarray x 2, 4)) (h : mkMM o x pc ls st hs = some (.inl r)) (hc1 : cl + r.2.2.2.2.1 ≤ R.cells) (hc2 : sl + r.2.2.2.2.2 ≤ R.slots) (hG : mkZ p l e R s m args below meth c Z γ A nL n0 ad0 cl sl r) (hH : mkH s γ A nL n0 ad0 ad H locs ls' ls hs) : W p l e R s m args below meth c H locs cl sl Z (F0 m pc ls' (st.map (rv ad))) := by
  obtain ⟨⟨hx, hb, hml, hown⟩, hts, hK, hA, hR, hin⟩ := hC
  obtain ⟨hP, hD, hS, hl, hag, hn⟩ := hH
  unfold mkMM at h
  split at h
  · next k n r2 =>
    split at h
    · next hw =>
      cases h
      obtain ⟨⟨rfl, rfl⟩, ⟨hw1, hw2⟩, ⟨hn0, hn3⟩, ⟨hk0, hk3⟩⟩ := hw
      obtain ⟨w1, w2, w3⟩ := wfm_of hw1
      refine W_mna (g := F0 m pc ls' (.int k :: .int n :: r2.map (rv ad))) hx hb hown (hts _ mna_link) (hK.1.2 3 _ rfl).2 hK.2.1 rfl hd rfl hn0 hk0 hn3 hk3 hc1 hc2 (fun H1 L hL z1 o1 f1 f2 => ?_)
      generalize hN : n.toNatClampNeg = N at *
      generalize hM : k.toNatClampNeg = M at *
      obtain ⟨ad', had⟩ : ∃ ad' : Nat → Nat, ad' = fun p => if hs.length ≤ p ∧ p ≤ hs.length + N then H.size + (p - hs.length) else ad p := ⟨_, rfl⟩
      have hg : ag hs.length ad ad' := fun p hp => by rw [had]; exact if_neg (by omega)
      have hnew : ∀ j, j ≤ N → ad' (hs.length + j) = H.size + j := fun j hj => by rw [had]; dsimp only; rw [if_pos (by omega), Nat.add_sub_cancel_left]
      have hold : ∀ i, i < hs.length → (mkW γ ad' (hs ++ (.inr (3, N, (List.range N).map (fun j => some (hs.length + 1 + j))) :: List.replicate N (.inr (0, M, [])))))[i]? = (mkW γ ad hs)[i]? := fun i hi => by
        rw [mkW_at, List.getElem?_append_left hi, ← mkW_at, mkW_ext hg w1 (Nat.le_refl _)]
      have hout : mkE γ ad' (.inr (3, N, (List.range N).map (fun j => some (hs.length + 1 + j)))) = .inl (γ.2 3, N, .inr (.inr (.inr (.inr (fun i => if i < N then some (H.size + 1 + i) else none))))) := by
        have e9 : (fun i : Nat => ((((List.range N).map (fun j => some (hs.length + 1 + j)))[i]?).join).map ad') = fun i => if i < N then some (H.size + 1 + i) else none := by
          funext i
          rw [List.getElem?_map]
          by_cases hi : i < N
          · rw [List.getElem?_range hi, if_pos hi]
            show some (ad' (hs.length + 1 + i)) = _
            rw [show hs.length + 1 + i = hs.length + (1 + i) by omega, hnew (1 + i) (by omega), Nat.add_assoc]
          · rw [List.getElem?_eq_none (by rw [List.length_range]; omega), if_neg hi]
            rfl
        unfold mkE
        dsimp only
        rw [e9]
        rfl
      have hmid : (mkW γ ad' (hs ++ (.inr (3, N, (List.range N).map (fun j => some (hs.length + 1 + j))) :: List.replicate N (.inr (0, M, [])))))[hs.length]? = some (H.size, .inl (γ.2 3, N, .inr (.inr (.inr (.inr (fun i => if i < N then some (H.size + 1 + i) else none)))))) := by
        rw [mkW_at, List.getElem?_append_right (Nat.le_refl _), Nat.sub_self]
        show some (ad' hs.length, mkE γ ad' _) = _
        rw [hout, show ad' hs.length = H.size from hnew 0 (Nat.zero_le _)]
      have hrow : ∀ j, j < N → (mkW γ ad' (hs ++ (.inr (3, N, (List.range N).map (fun j => some (hs.length + 1 + j))) :: List.replicate N (.inr (0, M, [])))))[hs.length + 1 + j]? = some (H.size + 1 + j, .inl (γ.2 0, M, .inl (fun _ => 0))) := fun j hj => by
        rw [mkW_at, List.getElem?_append_right (by omega), show hs.length + 1 + j - hs.length = j + 1 by omega, List.getElem?_cons_succ, List.getElem?_replicate, if_pos hj]
        show some (ad' (hs.length + 1 + j), _) = _
        rw [show hs.length + 1 + j = hs.length + (1 + j) by omega, hnew (1 + j) (by omega), ← Nat.add_assoc]
        rfl
      have hlen : (hs ++ (.inr (3, N, (List.range N).map (fun j => some (hs.length + 1 + j))) :: List.replicate N (.inr (0, M, [])) : List mkC)).length = hs.length + 1 + N := by
        rw [List.length_append, List.length_cons, List.length_replicate]; omega
      have key : ∀ (i : Nat) (q : Nat × va_E), (mkW γ ad' (hs ++ (.inr (3, N, (List.range N).map (fun j => some (hs.length + 1 + j))) :: List.replicate N (.inr (0, M, [])))))[i]? = some q → (i < hs.length ∧ (mkW γ ad hs)[i]? = some q) ∨ (i = hs.length ∧ q = (H.size, .inl (γ.2 3, N, .inr (.inr (.inr (.inr (fun i => if i < N then some (H.size + 1 + i) else none))))))) ∨ (∃ j, j < N ∧ i = hs.length + 1 + j ∧ q = (H.size + 1 + j, .inl (γ.2 0, M, .inl (fun _ => 0)))) := by
        intro i q hq
        have hi : i < hs.length + 1 + N := by
          have := (List.getElem?_eq_some_iff.mp hq).1
          rw [mkW_len, hlen] at this
          exact this
        by_cases c1 : i < hs.length
        · left
          rw [hold i c1] at hq
          exact ⟨c1, hq⟩
        · by_cases c2 : i = hs.length
          · right; left
            subst c2
            rw [hmid] at hq
            exact ⟨rfl, (Option.some.inj hq).symm⟩
          · right; right
            obtain ⟨j, rfl⟩ : ∃ j, i = hs.length + 1 + j := ⟨i - hs.length - 1, by omega⟩
            rw [hrow j (by omega)] at hq
            exact ⟨j, by omega, rfl, (Option.some.inj hq).symm⟩
      have hPn : va_P γ.1 classes (mkW γ ad' (hs ++ (.inr (3, N, (List.range N).map (fun j => some (hs.length + 1 + j))) :: List.replicate N (.inr (0, M, []))))) H1 := by
        intro i q hq
        rcases key i q hq with ⟨c1, c2⟩ | ⟨c1, rfl⟩ | ⟨j, c1, c2, rfl⟩
        · exact (hP.kept (fun k x hx => o1 x.1 ((hP k x hx).lt))) i q c2
        · show H1[H.size]? = some (vp_cell _ _)
          rw [f1, vp_cell_q]
          refine congrArg some ?_
          unfold arrV
          congr 2
          funext j
          show _ = va_rf (if (j : Nat) < N then some (H.size + 1 + j) else none)
          rw [if_pos j.2]
          rfl
        · exact f2 j c1
      have hlt : ∀ (i : Nat) (q : Nat × va_E), (mkW γ ad hs)[i]? = some q → q.1 < H.size := fun i q hq => (hP i q hq).lt
      have hDn : va_D A (mkW γ ad' (hs ++ (.inr (3, N, (List.range N).map (fun j => some (hs.length + 1 + j))) :: List.replicate N (.inr (0, M, []))))) := by
        refine ⟨fun i j p q hi hj e9 => ?_, fun i q hq => ?_⟩
        · rcases key i p hi with ⟨a1, a2⟩ | ⟨a1, rfl⟩ | ⟨ja, a1, a2, rfl⟩ <;> rcases key j q hj with ⟨b1, b2⟩ | ⟨b1, rfl⟩ | ⟨jb, b1, b2, rfl⟩
          · exact hD.1 i j p q a2 b2 e9
          · have := hlt i p a2; dsimp only at e9; omega
          · have := hlt i p a2; dsimp only at e9; omega
          · have := hlt j q b2; dsimp only at e9; omega
          · omega
          · dsimp only at e9; omega
          · have := hlt j q b2; dsimp only at e9; omega
          · dsimp only at e9; omega
          · dsimp only at e9; omega
        · rcases key i q hq with ⟨a1, a2⟩ | ⟨a1, rfl⟩ | ⟨ja, a1, a2, rfl⟩
          · exact hD.2 i q a2
          · exact hA _ hS.1
          · exact hA _ (Nat.le_trans hS.1 (by dsimp only; omega))
      have hSn : va_S A s.heap H1 (locs ++ L) := by
        refine ⟨Nat.le_trans hS.1 (by omega), fun q h1 h2 => ?_, fun y hy => ?_⟩
        · rw [o1 q (Nat.lt_of_lt_of_le h1 hS.1)]
          exact hS.2.1 q h1 h2
        · rcases List.mem_append.mp hy with q | q
          · exact hS.2.2 y q
          · rw [hL y q]
            exact hA _ hS.1
      have w3' : r2.all (vbn hs.length) = true := (Bool.and_eq_true_iff.mp (List.all_cons.symm.trans (Bool.and_eq_true_iff.mp (List.all_cons.symm.trans w3)).2)).2
      have := hG ad' H1 (locs ++ L) ls' ⟨hPn, hDn, hSn, lo_ext hg hl w2, fun p hp => by rw [hg p (by omega)]; exact hag p hp, by rw [hlen]; omega⟩
      dsimp only at this
      rw [List.map_cons, st_ext hg w3', show rv ad' (.ref hs.length) = .ref H.size from congrArg Value.ref (hnew 0 (Nat.zero_le _))] at this
      rw [Nat.add_assoc cl, Nat.add_assoc sl]
      exact this
    · cases h
  · cases h
theorem kct_D {j : Nat} {q : MethodName × ByteArray × Nat} (h : kct[j]? = some q) : kct.getD j (yX0_init, cX0_init, 1) = q := by
  rw [List.getD_eq_getElem?_getD, h]
  rfl
theorem z_call {x j k dc ds : Nat} {hs2 : List mkC} {r2 : List Value} (hC : mkT p R s m args meth c γ A d o cc nL) (hd : decode cc pc = .ok (.invokespecial x, 3)) (hlk : nsF o x = some j ∨ plF o x = some j) (hM : MK l d j k hs hs2 dc ds) (hr : rsz r2 ≤ 8) (hw : wfm ls (.ref k :: r2) hs = true) (hle : hs.length ≤ hs2.length) (hc1 : cl + dc ≤ R.cells) (hc2 : sl + ds ≤ R.slots)
    (hG : mkZ p l e R s m args below meth c Z γ A nL n0 ad0 cl sl (pc + 3, ls, r2, hs2, dc, ds)) (hH : mkH s γ A nL n0 ad0 ad H locs ls' ls hs) : W p l e R s m args below meth c H locs cl sl Z (F0 m pc ls' ((.ref k :: r2 : List Value).map (rv ad))) := by
  obtain ⟨⟨hx, hb, hml, hown⟩, hts, hK, hA, hR, hin⟩ := hC
  obtain ⟨hP, hD, hS, hl, hag, hn⟩ := hH
  obtain ⟨q, hq, hMet⟩ := hM
  obtain ⟨⟨i1, i2, i3, i4⟩, i5, i6, ⟨i7, i8⟩, i9, i10, i11⟩ := kct_ok j q hq
  obtain ⟨w1, w2, w3⟩ := wfm_of hw
  have w3' : r2.all (vbn hs.length) = true := (Bool.and_eq_true_iff.mp (List.all_cons.symm.trans w3)).2
  have hFc : ∀ q, va_A (mkW γ ad hs) H.size q → A q := by
    intro q h
    rcases h with ⟨k, e9, h⟩ | h
    · exact hD.2 k _ h
    · exact hA q (Nat.le_trans hS.1 h)
  have hpre : PreS s H (mkPre γ ad H.size hs k) [.ref (ad k)] := ⟨mkPre_blind, fun U hU hW => ⟨rfl, by rw [hU], by rw [hU]; exact hP, hK.moved hW, hD.weaken (fun _ _ _ _ => trivial)⟩⟩
  have hroom : d + 1 ≤ R.frames ∧ 8 + (q.2.2 + 11) + 100 * d ≤ R.locals := ⟨hR.1, by omega⟩
  have hrun : va_Run p l e R s m args below meth c H locs cl sl dc ds (F0 m pc ls' (.ref (ad k) :: r2.map (rv ad))) (r2.map (rv ad)) (mkPost γ ad H.size hs hs2 [Value.ref (ad k)].toArray) (va_A (mkW γ ad hs) H.size) := by
    rcases hlk with hlk | hlk
    · have hl1 := hK.2.2.1 _ (find_mem hlk)
      unfold nstw at hl1
      dsimp only at hl1
      rw [kct_D hq] at hl1
      exact va_runIN (As := []) (rest := r2.map (rv ad)) ⟨hx, hb, hml, hown, hts⟩ (hMet γ ad H.size) ⟨va_cnB (R := R) (args := args) 0 hts (gw_good _ i9) rfl rfl rfl hl1 (hts _ i10) ⟨i2, i3, i4⟩ hroom, i6, hts _ i11⟩ hpre rfl rfl hl.2.1 rfl (lv_room (by rw [rsz_map]; exact hr)) hd ⟨hc1, hc2⟩
    · have hl1 := plt_ok _ (find_mem hlk)
      unfold okP at hl1
      dsimp only at hl1
      rw [kct_D hq] at hl1
      exact va_runI (As := []) (rest := r2.map (rv ad)) ⟨hx, hb, hml, hown, hts⟩ (hMet γ ad H.size) (cwI 0 hts (gw_good _ i9) rfl rfl rfl (hts _ i10) (hts _ hl1) (hts _ i11) i6 ⟨i2, i3, i4⟩ hroom) hpre rfl rfl hl.2.1 rfl (lv_room (by rw [rsz_map]; exact hr)) hd ⟨hc1, hc2⟩
  refine va_callv (post := fun ad' : Nat → Nat => ag hs.length ad ad') (B := fun ad' t => va_P γ.1 classes (mkW γ ad' hs2) t.heap ∧ va_D (va_A (mkW γ ad hs) H.size) (mkW γ ad' hs2)) hrun hS (fun q _ h => hFc q h) hFc (fun u t H1 locs1 ht hvm hpost hB hz hk hS1 => ?_)
  obtain ⟨hP1, hD1⟩ := hB
  rw [ht] at hP1
  have := hG u H1 locs1 ls' ⟨hP1, hD1.weaken (fun _ _ _ h => hFc _ h), hS1, lo_ext hpost hl w2, fun p hp => by rw [hpost p (by omega)]; exact hag p hp, by dsimp only; omega⟩
  dsimp only at this
  rw [st_ext hpost w3'] at this
  exact this
end MS3
