/-! the making is sound: rows, fields, calls -/
theorem K_last {D : va_G} {cl : List vw_C} {tys : List (ClassId × FieldType)} {U : State} {cA : ClassId} {ty : FieldType} (h : va_K D cl (tys ++ [(cA, ty)]) U) : va_RA U cA ty := by
  refine (h.2 tys.length (cA, ty) ?_).2
  rw [List.getElem?_append_right (Nat.le_refl _), Nat.sub_self]
  rfl
theorem fits_ref {ty : FieldType} (h : ty.isReference = true) (a : Nat) : fits ty (.ref a) = true ∧ narrow ty (.ref a) = .ref a := by
  cases ty <;> first | (exact ⟨rfl, rfl⟩) | (cases h)
section MS2
variable {p : Program} {l : Launch} {e : Env} {R : Room} {s : State} {m : MethodId} {args : Array Value} {below : List Frame} {meth : Method} {c : Code} {Z : State → Prop} {γ : mkG} {A : Nat → Prop} {d o : Nat} {cc : ByteArray} {nL n0 : Nat} {ad0 : Nat → Nat}
variable {pc : Nat} {ls : aL} {st : List Value} {hs : List mkC} {cl sl : Nat} {ad : Nat → Nat} {H : Heap} {locs : List Loc} {ls' : Array Slot} {r : mkN}
theorem z_NAi (hC : mkT p R s m args meth c γ A d o cc nL) (hd : decode cc pc = .ok (.newarray .int, 2)) (h : mkNA 0 pc ls st hs = some (.inl r)) (hc1 : cl + r.2.2.2.2.1 ≤ R.cells) (hc2 : sl + r.2.2.2.2.2 ≤ R.slots) (hG : mkZ p l e R s m args below meth c Z γ A nL n0 ad0 cl sl r) (hH : mkH s γ A nL n0 ad0 ad H locs ls' ls hs) : W p l e R s m args below meth c H locs cl sl Z (F0 m pc ls' (st.map (rv ad))) := by
  obtain ⟨⟨hx, hb, hml, hown⟩, hts, hK, hA, hR, hin⟩ := hC
  obtain ⟨hP, hD, hS, hl, hag, hn⟩ := hH
  unfold mkNA at h
  split at h
  · next n r2 =>
    split at h
    · next hw =>
      cases h
      obtain ⟨⟨hw1, hw2⟩, hn0, hn3⟩ := hw
      obtain ⟨w1, w2, w3⟩ := wfm_of hw1
      refine va_newa (atype := .int) (ty := .int) (a0 := (n.toNatClampNeg, .inl (fun _ => 0))) hx hb (hts _ ac_int) rfl hK.1 hP hD hS hA (fun _ => rfl) hn0 rfl (by show n.toNatClampNeg * 4 ≤ _; omega) hc1 hc2 hd (fun q cA H1 hK1 hP1 hD1 hS1 => ?_)
      have hcA : cA = γ.2 0 := Option.some.inj ((va_nm_int (K_last hK1)).symm.trans (va_nm_int (hK.1.2 0 _ rfl).2))
      subst hcA
      have e1 : mkW γ (uA ad hs.length q) (hs ++ [.inr (0, n.toNatClampNeg, [])]) = mkW γ ad hs ++ [(q, .inl (γ.2 0, n.toNatClampNeg, .inl (fun _ => 0)))] := mkW_push w1 hw2
      have hg := uA_lt hw2 ad q
      have w3' : r2.all (vbn hs.length) = true := (Bool.and_eq_true_iff.mp (List.all_cons.symm.trans w3)).2
      have := hG (uA ad hs.length q) H1 locs ls' ⟨by rw [e1]; exact hP1, by rw [e1]; exact hD1, hS1, lo_ext hg hl w2, fun p hp => by rw [hg p (by omega)]; exact hag p hp, by rw [List.length_append]; omega⟩
      dsimp only at this
      rw [List.map_cons, st_ext hg w3', show rv (uA ad hs.length q) (.ref hs.length) = .ref q from congrArg Value.ref (uA_at ad hs.length q)] at this
      exact this
    · cases h
  · cases h
theorem z_NAb (hC : mkT p R s m args meth c γ A d o cc nL) (hd : decode cc pc = .ok (.newarray .boolean, 2)) (h : mkNA 1 pc ls st hs = some (.inl r)) (hc1 : cl + r.2.2.2.2.1 ≤ R.cells) (hc2 : sl + r.2.2.2.2.2 ≤ R.slots) (hG : mkZ p l e R s m args below meth c Z γ A nL n0 ad0 cl sl r) (hH : mkH s γ A nL n0 ad0 ad H locs ls' ls hs) : W p l e R s m args below meth c H locs cl sl Z (F0 m pc ls' (st.map (rv ad))) := by
  obtain ⟨⟨hx, hb, hml, hown⟩, hts, hK, hA, hR, hin⟩ := hC
  obtain ⟨hP, hD, hS, hl, hag, hn⟩ := hH
  unfold mkNA at h
  split at h
  · next n r2 =>
    split at h
    · next hw =>
      cases h
      obtain ⟨⟨hw1, hw2⟩, hn0, hn3⟩ := hw
      obtain ⟨w1, w2, w3⟩ := wfm_of hw1
      refine va_newa (atype := .boolean) (ty := .boolean) (a0 := (n.toNatClampNeg, .inl (fun _ => 0))) hx hb (hts _ ac_boolean) rfl hK.1 hP hD hS hA (fun _ => rfl) hn0 rfl (by show n.toNatClampNeg * 1 ≤ _; omega) hc1 hc2 hd (fun q cA H1 hK1 hP1 hD1 hS1 => ?_)
      have hcA : cA = γ.2 1 := Option.some.inj ((va_nm_boolean (K_last hK1)).symm.trans (va_nm_boolean (hK.1.2 1 _ rfl).2))
      subst hcA
      have e1 : mkW γ (uA ad hs.length q) (hs ++ [.inr (1, n.toNatClampNeg, [])]) = mkW γ ad hs ++ [(q, .inl (γ.2 1, n.toNatClampNeg, .inl (fun _ => 0)))] := mkW_push w1 hw2
      have hg := uA_lt hw2 ad q
      have w3' : r2.all (vbn hs.length) = true := (Bool.and_eq_true_iff.mp (List.all_cons.symm.trans w3)).2
      have := hG (uA ad hs.length q) H1 locs ls' ⟨by rw [e1]; exact hP1, by rw [e1]; exact hD1, hS1, lo_ext hg hl w2, fun p hp => by rw [hg p (by omega)]; exact hag p hp, by rw [List.length_append]; omega⟩
      dsimp only at this
      rw [List.map_cons, st_ext hg w3', show rv (uA ad hs.length q) (.ref hs.length) = .ref q from congrArg Value.ref (uA_at ad hs.length q)] at this
      exact this
    · cases h
  · cases h
theorem z_NQ {x : Nat} (hC : mkT p R s m args meth c γ A d o cc nL) (hd : decode cc pc = .ok (.anewarray x, 3)) (h : mkNQ o x pc ls st hs = some (.inl r)) (hc1 : cl + r.2.2.2.2.1 ≤ R.cells) (hc2 : sl + r.2.2.2.2.2 ≤ R.slots) (hG : mkZ p l e R s m args below meth c Z γ A nL n0 ad0 cl sl r) (hH : mkH s γ A nL n0 ad0 ad H locs ls' ls hs) : W p l e R s m args below meth c H locs cl sl Z (F0 m pc ls' (st.map (rv ad))) := by
  obtain ⟨⟨hx, hb, hml, hown⟩, hts, hK, hA, hR, hin⟩ := hC
  obtain ⟨hP, hD, hS, hl, hag, hn⟩ := hH
  unfold mkNQ at h
  split at h
  · next n r2 =>
    split at h
    · next hw =>
      cases h
      obtain ⟨ho, ⟨hw1, hw2⟩, hn0, hn3⟩ := hw
      obtain ⟨w1, w2, w3⟩ := wfm_of hw1
      refine va_newq (C := RX7) hx hb hown (hts _ (ant_ok _ ho)) hK.2.2.2 hK.1 hP hD hS hA hn0 rfl (by omega) hc1 hc2 hd (fun q cA H1 hK1 hP1 hD1 hS1 => ?_)
      have hcA : cA = γ.2 2 := Option.some.inj ((va_nmO (K_last hK1) rfl).symm.trans (va_nmO (hK.1.2 2 _ rfl).2 rfl))
      subst hcA
      have e0 : mkE γ (uA ad hs.length q) (.inr (2, n.toNatClampNeg, List.replicate n.toNatClampNeg none)) = .inl (γ.2 2, n.toNatClampNeg, .inr (.inr (.inr (.inr (fun _ => none))))) := by
        have e9 : (fun i : Nat => (((List.replicate n.toNatClampNeg (none : Option Nat))[i]?).join).map (uA ad hs.length q)) = fun _ => none := by
          funext i
          rw [List.getElem?_replicate]
          split <;> rfl
        unfold mkE
        dsimp only
        rw [e9]
        rfl
      have e1 : mkW γ (uA ad hs.length q) (hs ++ [.inr (2, n.toNatClampNeg, List.replicate n.toNatClampNeg none)]) = mkW γ ad hs ++ [(q, .inl (γ.2 2, n.toNatClampNeg, .inr (.inr (.inr (.inr (fun _ => none))))))] := by rw [mkW_push w1 hw2, e0]
      have hg := uA_lt hw2 ad q
      have w3' : r2.all (vbn hs.length) = true := (Bool.and_eq_true_iff.mp (List.all_cons.symm.trans w3)).2
      have := hG (uA ad hs.length q) H1 locs ls' ⟨by rw [e1]; exact hP1, by rw [e1]; exact hD1, hS1, lo_ext hg hl w2, fun p hp => by rw [hg p (by omega)]; exact hag p hp, by rw [List.length_append]; omega⟩
      dsimp only at this
      rw [List.map_cons, st_ext hg w3', show rv (uA ad hs.length q) (.ref hs.length) = .ref q from congrArg Value.ref (uA_at ad hs.length q)] at this
      exact this
    · cases h
  · cases h
theorem z_Gt {x : Nat} (hC : mkT p R s m args meth c γ A d o cc nL) (hd : decode cc pc = .ok (.getfield x, 3)) (h : mkGt o x pc ls st hs = some (.inl r)) (hG : mkZ p l e R s m args below meth c Z γ A nL n0 ad0 cl sl r) (hH : mkH s γ A nL n0 ad0 ad H locs ls' ls hs) : W p l e R s m args below meth c H locs cl sl Z (F0 m pc ls' (st.map (rv ad))) := by
  obtain ⟨⟨hx, hb, hml, hown⟩, hts, hK, hA, hR, hin⟩ := hC
  have hH0 := hH
  obtain ⟨hP, hD, hS, hl, hag, hn⟩ := hH
  unfold mkGt at h
  split at h
  · next a r2 =>
    split at h
    · next q c2 hq hc2 =>
      split at h
      · next hc =>
        split at h
        · next v hv =>
          obtain ⟨C, T, N, k1, k2, k3⟩ := fl_ok hq
          dsimp only at k1 k2 k3
          have okc := classes_ok _ (List.mem_of_getElem? k1)
          have hat : (mkW γ ad hs)[a]? = some (ad a, .inr (q.1, c2.2.map (rv ad))) := by
            rw [mkW_at, hc2, ← hc]
            rfl
          exact va_get (v := rv ad v) hx hb hts okc.1 hown hK.1 hP a hat k1 q.2 k2 (hts _ k3) (fun _ h9 => h9) (by rw [List.getElem?_map, hv]; rfl) hd (z_X h hG hH0)
        · cases h
      · cases h
    · cases h
  · cases h
theorem z_Pt {x : Nat} (hC : mkT p R s m args meth c γ A d o cc nL) (hd : decode cc pc = .ok (.putfield x, 3)) (h : mkPt o x pc ls st hs = some (.inl r)) (hG : mkZ p l e R s m args below meth c Z γ A nL n0 ad0 cl sl r) (hH : mkH s γ A nL n0 ad0 ad H locs ls' ls hs) : W p l e R s m args below meth c H locs cl sl Z (F0 m pc ls' (st.map (rv ad))) := by
  obtain ⟨⟨hx, hb, hml, hown⟩, hts, hK, hA, hR, hin⟩ := hC
  have hH0 := hH
  obtain ⟨hP, hD, hS, hl, hag, hn⟩ := hH
  unfold mkPt at h
  split at h
  · next v a r2 =>
    split at h
    · next q c2 hq hc2 =>
      split at h
      · next hc =>
        obtain ⟨hc1, ho, hlen, hfk⟩ := hc
        cases h
        obtain ⟨C, T, N, k1, k2, k3⟩ := fl_ok hq
        dsimp only at k1 k2 k3
        have okc := classes_ok _ (List.mem_of_getElem? k1)
        obtain ⟨ty0, hty⟩ := okc.2.1
        have hfl := List.all_eq_true.mp (List.all_eq_true.mp okFld_all _ (List.mem_of_getElem? k1)) q.2 (List.mem_range.mpr k2)
        dsimp only at hfl hty
        have hdecl : (T q.2).1 = C := of_decide_eq_true (Bool.and_eq_true_iff.mp hfl).1
        have hfl2 := (Bool.and_eq_true_iff.mp hfl).2
        have hat : (mkW γ ad hs)[a]? = some (ad a, .inr (q.1, c2.2.map (rv ad))) := by
          rw [mkW_at, hc2, ← hc1]
          rfl
        have hset : (mkW γ ad hs).set a (ad a, .inr (q.1, (c2.2.map (rv ad)).set q.2 (rv ad v))) = mkW γ ad (hs.set a (.inl (c2.1, c2.2.set q.2 v))) := by
          rw [← mkW_set, ← hc1]
          show _ = (mkW γ ad hs).set a (ad a, Sum.inr (c2.1, (c2.2.set q.2 v).map (rv ad)))
          rw [List.map_set]
        have hlen2 : q.2 < (c2.2.map (rv ad)).length := by rw [List.length_map]; exact hlen
        have hown2 : C = cn o := by rw [← ho]; exact cls_names k1
        have ho11 : o < 11 := by
          rw [← ho]
          exact (List.getElem?_eq_some_iff.mp k1).1
        have hgo : ∀ (H1 : Heap) (locs1 : List Loc), va_P γ.1 classes ((mkW γ ad hs).set a (ad a, .inr (q.1, (c2.2.map (rv ad)).set q.2 (rv ad v)))) H1 → va_D A ((mkW γ ad hs).set a (ad a, .inr (q.1, (c2.2.map (rv ad)).set q.2 (rv ad v)))) → va_S A s.heap H1 locs1 → W p l e R s m args below meth c H1 locs1 cl sl Z (F0 m (pc + 3) ls' (r2.map (rv ad))) := by
          intro H1 locs1 hP1 hD1 hS1
          rw [hset] at hP1 hD1
          exact hG ad H1 locs1 ls' ⟨hP1, hD1, hS1, hl, hag, by rw [List.length_set]; exact hn⟩
        unfold fkd at hfk
        rw [k1] at hfk
        cases v with
        | int y =>
          have hfin : (T q.2).2.2.2 = false := by simpa using hfk
          rw [if_neg (by rw [hfin]; decide)] at hfl2
          have hI : (T q.2).2.2.1 = "I" := of_decide_eq_true hfl2
          exact va_put (v := .int y) (ty := .int) hx hb hts okc.1 ty0 hty okc.2.2 hown hK.1 hP hD hS a hat k1 q.2 k2 (hts _ k3) (fun _ h9 => h9) hfin (by rw [hI]; decide +kernel) rfl rfl hlen2 hd hgo
        | ref y =>
          have hfin : (T q.2).2.2.2 = true := hfk
          rw [if_pos hfin] at hfl2
          have hty2 := hty q.2 k2
          rw [hty2] at hfl2
          obtain ⟨f1, f2⟩ := fits_ref hfl2 (ad y)
          exact va_putF (v := .ref (ad y)) (ty := ty0 q.2) hx hb hts okc.1 ty0 hty okc.2.2 hown hK.1 hP hD hS a hat k1 q.2 k2 (hts _ k3) (fun _ h9 => h9) hfin (hin ho11) (by rw [hdecl]; exact hown2) hty2 f2 f1 hlen2 hd hgo
        | _ => cases hfk
      · cases h
    · cases h
  · cases h
theorem z_AS (hC : mkT p R s m args meth c γ A d o cc nL) (hd : decode cc pc = .ok (.aastore, 1)) (h : mkAS pc ls st hs = some (.inl r)) (hG : mkZ p l e R s m args below meth c Z γ A nL n0 ad0 cl sl r) (hH : mkH s γ A nL n0 ad0 ad H locs ls' ls hs) : W p l e R s m args below meth c H locs cl sl Z (F0 m pc ls' (st.map (rv ad))) := by
  obtain ⟨⟨hx, hb, hml, hown⟩, hts, hK, hA, hR, hin⟩ := hC
  obtain ⟨hP, hD, hS, hl, hag, hn⟩ := hH
  unfold mkAS at h
  split at h
  · next v i a r2 =>
    split at h
    · next q c2 hq hc2 =>
      split at h
      · next hc =>
        obtain ⟨h2, h7, hi0, hi1, hlen⟩ := hc
        cases h
        have hat : (mkW γ ad hs)[a]? = some (ad a, .inl (γ.2 2, q.2.1, .inr (.inr (.inr (.inr (fun i : Nat => ((q.2.2[i]?).join).map ad)))))) := by
          rw [mkW_at, hq]
          show some (ad a, mkE γ ad (.inr q)) = _
          unfold mkE
          dsimp only
          rw [h2]
          rfl
        have hav : (mkW γ ad hs)[v]? = some (ad v, .inr (7, c2.2.map (rv ad))) := by
          rw [mkW_at, hc2, ← h7]
          rfl
        have hup : va_up (fun i : Nat => ((q.2.2[i]?).join).map ad) i.toNatClampNeg (some (ad v)) = fun j : Nat => (((q.2.2.set i.toNatClampNeg (some v))[j]?).join).map ad := by
          funext j
          unfold va_up
          rw [List.getElem?_set]
          by_cases ej : j = i.toNatClampNeg
          · subst ej
            rw [if_pos rfl, if_pos rfl, if_pos (by omega)]
            rfl
          · rw [if_neg ej, if_neg (fun h => ej h.symm)]
        have hset : (mkW γ ad hs).set a (ad a, .inl (γ.2 2, q.2.1, .inr (.inr (.inr (.inr (va_up (fun i : Nat => ((q.2.2[i]?).join).map ad) i.toNatClampNeg (some (ad v)))))))) = mkW γ ad (hs.set a (.inr (q.1, q.2.1, q.2.2.set i.toNatClampNeg (some v)))) := by
          rw [← mkW_set, hup, h2]
          rfl
        refine va_astq (r := (RX7, TX7, 9)) hx hb hK.1 hP hD hS a 2 v 7 hat rfl hav rfl (i := i) (fun hc => hc.elim hi0 (fun c => absurd hi1 (Nat.not_lt.mpr c))) hd (fun H1 locs1 hP1 hD1 hS1 => ?_)
        rw [hset] at hP1 hD1
        exact hG ad H1 locs1 ls' ⟨hP1, hD1, hS1, hl, hag, by rw [List.length_set]; exact hn⟩
      · cases h
    · cases h
  · cases h
end MS2
