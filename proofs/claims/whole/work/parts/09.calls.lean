theorem cls_names_all : (List.range classes.length).all (fun i => decide ((classes[i]?).map (fun q => q.1) = some (cn i))) = true := by decide +kernel
theorem cls_names {i : Nat} {q : vw_C} (h : classes[i]? = some q) : q.1 = cn i := by
  have h1 := List.all_eq_true.mp cls_names_all i (List.mem_range.mpr (List.getElem?_eq_some_iff.mp h).1)
  rw [h] at h1
  exact Option.some.inj (of_decide_eq_true h1)
theorem mtt_own : mtt.all (fun q => decide (q.2.2.2.2.2.1 < 13)) = true := by decide +kernel
section SND3
variable {p : Program} {l : Launch} {e : Env} {R : Room} {s : State} {m : MethodId} {args : Array Value} {below : List Frame} {meth : Method} {c : Code} {cells slots : Nat} {Z : State → Prop} {g : aG} {A : Nat → Prop} {d : Nat} {sc : Option (Nat × (Nat → Int32))} {o : Nat} {cc : ByteArray} {ty : Option FieldType} {nL : Nat} {Q : Option Value → aW → Prop} {K : Nat → aL → List Value → aW → Prop} {pc : Nat} {ls : aL} {st : List Value} {σ : aW} {H : Heap} {locs : List Loc} {ls' : Array Slot}
theorem call_go {σ' : aW} {r : Option Value} {st0 rest : List Value} {a : Array Value} (hr : va_Run p l e R s m args below meth c H locs cells slots 0 0 (F0 m pc ls' st0) rest (aPost g H.size σ r σ' a) (va_A (rws g σ) H.size)) (hS : va_S A s.heap H locs) (hF : ∀ q, va_A (rws g σ) H.size q → A q)
    (kk : ∀ (H1 : Heap) (locs1 : List Loc), va_P g.1 classes (rws g σ') H1 → va_S A s.heap H1 locs1 → W p l e R s m args below meth c H1 locs1 cells slots Z (F0 m (pc + 3) ls' ((r.map (rv g.2.1)).toList ++ rest))) : W p l e R s m args below meth c H locs cells slots Z (F0 m pc ls' st0) := by
  intro T hT X
  obtain ⟨v, st₀, t, T', L, h0, X', hL, e1, e2, ⟨⟨hv, hp⟩, hz, hk⟩, st⟩ := hr T hT X
  cases hv
  rw [h0] at hz hk
  obtain ⟨t2, a1, b1⟩ := kk t.heap (locs ++ L) hp ⟨Nat.le_trans hS.1 hz, fun q h1 h2 => by
      rw [hk q (Nat.lt_of_lt_of_le h1 hS.1) (fun z => h2 (hF q z))]
      exact hS.2.1 q h1 h2, fun q hq => by
      rcases List.mem_append.mp hq with h | h
      · exact hS.2.2 q h
      · exact hF _ (hL q h)⟩ T' e1 X'
  exact ⟨t2, st t2 a1, b1⟩
theorem rv_ret (ad : Nat → Nat) (r : Option Value) (rest : List Value) : (r.map (rv ad)).toList ++ rest.map (rv ad) = (r.toList ++ rest).map (rv ad) := by cases r <;> rfl
theorem aPre_at {as : List Value} (hC : aCtx p R s m args c g A d sc o cc nL cells slots) (hP : va_P g.1 classes (rws g σ) H) : ∀ U : State, U.heap = H → s.WarmedH U.vm → aPre g H.size as σ (as.map (rv g.2.1)).toArray U := by
  obtain ⟨hx, hb, hml, hown, hts, hK, hNw, hinj, hAd, hAq, hR, hcs, hsc⟩ := hC
  intro U hU hW
  exact ⟨rfl, by rw [hU], by rw [hU]; exact hP, va_K.moved hW.alike hK, va_Nw.warmM hW hNw, rws_D hinj (fun _ _ => trivial)⟩
theorem free_A (hC : aCtx p R s m args c g A d sc o cc nL cells slots) (hS : va_S A s.heap H locs) : ∀ q, va_A (rws g σ) H.size q → A q := by
  obtain ⟨hx, hb, hml, hown, hts, hK, hNw, hinj, hAd, hAq, hR, hcs, hsc⟩ := hC
  intro q h
  rcases h with ⟨k, e9, h⟩ | h
  · obtain ⟨a1, a2⟩ := rws_inv h
    cases a2
    exact hAd k a1
  · exact hAq q (Nat.le_trans hS.1 h)
theorem rvs (ad : Nat → Nat) {st : List Value} {n : Nat} {w : List Value} (h : st.drop n = w) : st.map (rv ad) = ((st.take n).reverse.map (rv ad)).reverse ++ w.map (rv ad) := by
  rw [← List.map_reverse, List.reverse_reverse, ← List.map_append, ← h, List.take_append_drop]
theorem s_clV {i j : Nat} (hj : ml o i = some j) (hj2 : j < 1000) (hC : aCtx p R s m args c g A d sc o cc nL cells slots) (hG : aGo p l e R s m args below meth c cells slots Z g A nL K) (hP : va_P g.1 classes (rws g σ) H) (hS : va_S A s.heap H locs) (hl : lo_has g.2.1 ls' nL ls) (hd : decode cc pc = .ok (.invokevirtual i, 3))
    (h : XR l d Q pc ls σ K (clV j st)) : W p l e R s m args below meth c H locs cells slots Z (F0 m pc ls' (st.map (rv g.2.1))) := by
  have hC0 := hC
  obtain ⟨hx, hb, hml, hown, hts, hK, hNw, hinj, hAd, hAq, hR, hcs, hsc⟩ := hC
  unfold clV at h
  split at h
  · next mm hmm =>
    split at h
    · next a r hdrop =>
      split at h
      · next hc =>
        obtain ⟨c1, c2, c3, c4⟩ := hc
        obtain ⟨r2, σ', ⟨m2, hm2, hMet⟩, hk⟩ := h
        have hm2 : mtt[j]? = some m2 := hm2
        rw [hmm] at hm2
        cases hm2
        obtain ⟨⟨n1, n2, n3, n4⟩, n5, n6, n7, n8, n9⟩ := mtt_at hmm
        rw [if_neg (by rw [c1]; decide)] at n9
        have hlk : Cond.methodLink (cn o) i mm.1 ∈ gw := by
          have := ml_ok hj
          unfold okN at this
          rw [if_neg (show ¬ j = 1000 by omega), if_neg (show ¬ j = 1001 by omega), if_neg (show ¬ j = 1002 by omega)] at this
          obtain ⟨m3, g1, g2⟩ := this
          have g1 : mtt[j]? = some m3 := g1
          rw [hmm] at g1
          cases g1
          exact g2
        have hci : mm.2.2.2.2.2.1 ≠ 99 := by
          have := of_decide_eq_true (List.all_eq_true.mp mtt_own _ (List.mem_of_getElem? hmm))
          omega
        obtain ⟨sl, hsl⟩ := cls_spec c2 hci
        have hat := rws_at g σ (shl_lt hsl)
        rw [rc_obj hsl] at hat
        have hcl : ∃ q, classes[mm.2.2.2.2.2.1]? = some q ∧ q.1 = cn mm.2.2.2.2.2.1 := by
          have h1 := List.all_eq_true.mp lay_all _ (List.mem_of_getElem? hsl)
          unfold layB at h1
          cases hq : classes[mm.2.2.2.2.2.1]? with
          | none => simp only [hq] at h1; cases h1
          | some q => exact ⟨q, rfl, cls_names hq⟩
        obtain ⟨q, hq1, hq2⟩ := hcl
        have hrec := va_recv hK hP hq1 hat
        rw [hq2, ← n5] at hrec
        have hpre := aPre_at (as := .ref a :: (st.take mm.2.2.2.2.1).reverse) hC0 hP
        have hcw : CallW R s args (cn o) mm.1.cls i mm.1 mm.2.1 mm.2.2.1 mm.2.2.2.1 (Cond.code mm.1 mm.2.1 mm.2.2.1 mm.2.2.2.1 :: gw) (RD d) 0 0 mm.2.2.2.2.1 :=
          ⟨callB_of _ hts (gw_good _ n7) rfl rfl rfl (hts _ n8) (hts _ hlk) ⟨n2, n3, n4⟩ ⟨hR.1, by show 8 + (mm.2.2.1 + 11) + 100 * d ≤ R.locals; omega⟩, hts _ n9.1, hts _ n9.2⟩
        refine call_go (va_runV (As := (st.take mm.2.2.2.2.1).reverse.map (rv g.2.1)) (rest := r.map (rv g.2.1)) (b := g.2.1 a) ⟨hx, hb, hml, hown, hts⟩ (hMet g H.size) hcw ⟨aPre_blind, hrec, hpre⟩ rfl (by simp; omega) hl.2.1 (rvs g.2.1 hdrop) (lv_room (by rw [rsz_map]; exact c3)) hd hcs) hS (free_A hC0 hS) (fun H1 locs1 hP1 hS1 => ?_)
        rw [rv_ret]
        exact hG _ _ _ _ _ _ _ hk hP1 hS1 hl
      · exact h.elim
    · exact h.elim
  · exact h.elim
theorem s_clS {i j : Nat} {mm : aM} (hmm : mtt[j]? = some mm) (hlk : Cond.methodLink (cn o) i mm.1 ∈ gw) (hC : aCtx p R s m args c g A d sc o cc nL cells slots) (hG : aGo p l e R s m args below meth c cells slots Z g A nL K) (hP : va_P g.1 classes (rws g σ) H) (hS : va_S A s.heap H locs) (hl : lo_has g.2.1 ls' nL ls) (hd : decode cc pc = .ok (.invokestatic i, 3))
    (h : XR l d Q pc ls σ K (clS j st)) : W p l e R s m args below meth c H locs cells slots Z (F0 m pc ls' (st.map (rv g.2.1))) := by
  have hC0 := hC
  obtain ⟨hx, hb, hml, hown, hts, hK, hNw, hinj, hAd, hAq, hR, hcs, hsc⟩ := hC
  unfold clS at h
  rw [hmm] at h
  dsimp only at h
  split at h
  · next hc =>
    obtain ⟨c1, c3, c4⟩ := hc
    obtain ⟨r2, σ', ⟨m2, hm2, hMet⟩, hk⟩ := h
    have hm2 : mtt[j]? = some m2 := hm2
    rw [hmm] at hm2
    cases hm2
    obtain ⟨⟨n1, n2, n3, n4⟩, n5, n6, n7, n8, n9⟩ := mtt_at hmm
    rw [if_pos c1] at n9
    have hpre := aPre_at (as := (st.take mm.2.2.2.2.1).reverse) hC0 hP
    have hcw : CallB R s args (cn o) i mm.1 mm.2.1 mm.2.2.1 mm.2.2.2.1 (Cond.code mm.1 mm.2.1 mm.2.2.1 mm.2.2.2.1 :: gw) (RD d) 0 0 mm.2.2.2.2.1 :=
      callB_of _ hts (gw_good _ n7) rfl rfl rfl (hts _ n8) (hts _ hlk) ⟨n2, n3, n4⟩ ⟨hR.1, by show 8 + (mm.2.2.1 + 11) + 100 * d ≤ R.locals; omega⟩
    refine call_go (va_runS (As := (st.take mm.2.2.2.2.1).reverse.map (rv g.2.1)) (rest := (st.drop mm.2.2.2.2.1).map (rv g.2.1)) ⟨hx, hb, hml, hown, hts⟩ (hMet g H.size) ⟨hcw, hts _ n9⟩ ⟨aPre_blind, hpre⟩ rfl (by simp; omega) hl.2.1 (rvs g.2.1 rfl) (lv_room (by rw [rsz_map]; exact c3)) hd hcs) hS (free_A hC0 hS) (fun H1 locs1 hP1 hS1 => ?_)
    rw [rv_ret]
    exact hG _ _ _ _ _ _ _ hk hP1 hS1 hl
  · exact h.elim
theorem s_clN {i j : Nat} {mm : aM} {host : String} (hmm : mtt[j]? = some mm) (hlk : va_Nw (.methodLinkNest (cn o) i mm.1 host) s) (hC : aCtx p R s m args c g A d sc o cc nL cells slots) (hG : aGo p l e R s m args below meth c cells slots Z g A nL K) (hP : va_P g.1 classes (rws g σ) H) (hS : va_S A s.heap H locs) (hl : lo_has g.2.1 ls' nL ls) (hd : decode cc pc = .ok (.invokestatic i, 3))
    (h : XR l d Q pc ls σ K (clS j st)) : W p l e R s m args below meth c H locs cells slots Z (F0 m pc ls' (st.map (rv g.2.1))) := by
  have hC0 := hC
  obtain ⟨hx, hb, hml, hown, hts, hK, hNw, hinj, hAd, hAq, hR, hcs, hsc⟩ := hC
  unfold clS at h
  rw [hmm] at h
  dsimp only at h
  split at h
  · next hc =>
    obtain ⟨c1, c3, c4⟩ := hc
    obtain ⟨r2, σ', ⟨m2, hm2, hMet⟩, hk⟩ := h
    have hm2 : mtt[j]? = some m2 := hm2
    rw [hmm] at hm2
    cases hm2
    obtain ⟨⟨n1, n2, n3, n4⟩, n5, n6, n7, n8, n9⟩ := mtt_at hmm
    rw [if_pos c1] at n9
    have hpre := aPre_at (as := (st.take mm.2.2.2.2.1).reverse) hC0 hP
    have hcw := va_cnB (R := R) (args := args) (own := cn o) (host := host) (index := i) (rm := RD d) (mc := 0) (ms := 0) mm.2.2.2.2.1 hts (gw_good _ n7) rfl rfl rfl hlk (hts _ n8) ⟨n2, n3, n4⟩ ⟨hR.1, by show 8 + (mm.2.2.1 + 11) + 100 * d ≤ R.locals; omega⟩
    refine call_go (va_runSN (As := (st.take mm.2.2.2.2.1).reverse.map (rv g.2.1)) (rest := (st.drop mm.2.2.2.2.1).map (rv g.2.1)) ⟨hx, hb, hml, hown, hts⟩ (hMet g H.size) ⟨hcw, hts _ n9, trivial⟩ ⟨aPre_blind, hpre⟩ rfl (by simp; omega) hl.2.1 (rvs g.2.1 rfl) (lv_room (by rw [rsz_map]; exact c3)) hd hcs) hS (free_A hC0 hS) (fun H1 locs1 hP1 hS1 => ?_)
    rw [rv_ret]
    exact hG _ _ _ _ _ _ _ hk hP1 hS1 hl
  · exact h.elim
theorem jw1 : Cond.static Lib.Math.max.name ∈ gw := gw_in (i := 518) (by decide +kernel) rfl
theorem jw2 : Cond.initialized "java/lang/Math" ∈ gw := gw_in (i := 61) (by decide +kernel) rfl
set_option maxRecDepth 100000 in
theorem jw3 : Cond.code Lib.Math.max.name Lib.Math.max.code 2 (some .int) ∈ gw := gw_in (i := 519) (by decide +kernel) rfl
theorem jw4 : Cond.static Lib.Math.min.name ∈ gw := gw_in (i := 507) (by decide +kernel) rfl
set_option maxRecDepth 100000 in
theorem jw5 : Cond.code Lib.Math.min.name Lib.Math.min.code 2 (some .int) ∈ gw := gw_in (i := 508) (by decide +kernel) rfl
theorem jw6 : Cond.native arraycopyName ∈ gw := gw_in (i := 439) (by decide +kernel) rfl
theorem jw7 : Cond.static arraycopyName ∈ gw := gw_in (i := 438) (by decide +kernel) rfl
theorem jw8 : Cond.initialized "java/lang/System" ∈ gw := gw_in (i := 60) (by decide +kernel) rfl
theorem s_ivS {i : Nat} (hC : aCtx p R s m args c g A d sc o cc nL cells slots) (hG : aGo p l e R s m args below meth c cells slots Z g A nL K) (hP : va_P g.1 classes (rws g σ) H) (hS : va_S A s.heap H locs) (hl : lo_has g.2.1 ls' nL ls) (hd : decode cc pc = .ok (.invokestatic i, 3))
    (h : XR l d Q pc ls σ K (ivS o i pc ls st σ)) : W p l e R s m args below meth c H locs cells slots Z (F0 m pc ls' (st.map (rv g.2.1))) := by
  unfold ivS at h
  split at h
  · next hm => exact s_max hm hC hG hP hS hl hd jw1 jw2 jw3 h
  · next hm => exact s_min hm hC hG hP hS hl hd jw4 jw2 jw5 h
  · next hm => exact s_cpy hm hC hG hP hS hl hd jw6 jw7 jw8 h
  · next j n0 n1 n2 hm =>
    have := ml_ok hm
    unfold okN at this
    rw [if_neg (show ¬ j = 1000 from fun q => n0 q), if_neg (show ¬ j = 1001 from fun q => n1 q), if_neg (show ¬ j = 1002 from fun q => n2 q)] at this
    obtain ⟨m3, g1, g2⟩ := this
    exact s_clS g1 g2 hC hG hP hS hl hd h
  · next hm =>
    split at h
    · next q hq =>
      have h1 := List.mem_of_find?_eq_some hq
      have h2 := List.find?_some hq
      simp only [Bool.and_eq_true, beq_iff_eq] at h2
      have h3 : q = nlt.getD 0 (0, 0, 0) := by
        have : nlt = [nlt.getD 0 (0, 0, 0)] := rfl
        rw [this] at h1
        exact List.mem_singleton.mp h1
      have hNw := hC.2.2.2.2.2.2.1
      unfold nw0 at hNw
      rw [← h3, h2.1, h2.2] at hNw
      have hmm : ∃ mm : aM, mtt[q.2.2]? = some mm ∧ mm.1 = yX9_afterCoffee := by
        rw [h3]
        exact ⟨_, rfl, rfl⟩
      obtain ⟨mm, m1, m2⟩ := hmm
      rw [← m2] at hNw
      exact s_clN m1 hNw hC hG hP hS hl hd h
    · exact h.elim
set_option maxRecDepth 100000 in
theorem s_ivV {i : Nat} (hC : aCtx p R s m args c g A d sc o cc nL cells slots) (hG : aGo p l e R s m args below meth c cells slots Z g A nL K) (hP : va_P g.1 classes (rws g σ) H) (hS : va_S A s.heap H locs) (hl : lo_has g.2.1 ls' nL ls) (hd : decode cc pc = .ok (.invokevirtual i, 3))
    (h : XR l d Q pc ls σ K (ivV o i st)) : W p l e R s m args below meth c H locs cells slots Z (F0 m pc ls' (st.map (rv g.2.1))) := by
  unfold ivV at h
  split at h
  · next j hj =>
    have hlt : j < 1000 := by
      unfold clV at h
      split at h
      · next mm hmm =>
        have h1 := (List.getElem?_eq_some_iff.mp hmm).1
        have h2 : mtt.length ≤ 1000 := Nat.le_of_ble_eq_true rfl
        omega
      · exact h.elim
    exact s_clV hj hlt hC hG hP hS hl hd h
  · exact h.elim
end SND3
