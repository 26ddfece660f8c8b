/-! the law behind the two constructors: every call of the script, both sides -/
section LAW
variable {l : Launch}
abbrev lQ : Option Value → aW → Prop := fun r _ => r = some (.int 1)
abbrev lG (l : Launch) (q : Nat × (Nat → Int32)) (i : Nat) (σ : aW) : Prop := aE l 30 (some q) 11 cL_law (some .boolean) lQ 18 [some (.ref 132), some (.ref 0), some (.ref 109), some (.int (nI i))] [] σ
theorem in256 {n N : Nat} (h : n < N) (hN : N ≤ 256) : vp_in (nI n) N := vin h (by omega)
set_option maxHeartbeats 4000000 in
theorem law_feed {q : Nat × (Nat → Int32)} (hq : q.1 ≤ 256) {i : Nat} (hi : i + 4 ≤ q.1) {σ : aW} (hI : Inv σ) (ih : ∀ σ', Inv σ' → lG l q (i + 4) σ') : aE l 30 (some q) 11 cL_law (some .boolean) lQ 160 [some (.ref 132), some (.ref 0), some (.ref 109), some (.int (nI i))] [] σ := by
  have i1 : vp_in (nI (i + 1)) q.1 := in256 (by omega) hq
  have i2 : vp_in (nI (i + 2)) q.1 := in256 (by omega) hq
  have i3 : vp_in (nI (i + 3)) q.1 := in256 (by omega) hq
  have c1 : (nI (i + 1)).toNatClampNeg = i + 1 := nic (by omega)
  have c2 : (nI (i + 2)).toNatClampNeg = i + 2 := nic (by omega)
  have c3 : (nI (i + 3)).toNatClampNeg = i + 3 := nic (by omega)
  have a1 : nI i + 1 = nI (i + 1) := nI_add i 1
  have a2 : nI i + 2 = nI (i + 2) := nI_add i 2
  have a3 : nI i + 3 = nI (i + 3) := nI_add i 3
  have a4 : nI i + 4 = nI (i + 4) := nI_add i 4
  simp only [eL_law_160, eL_law_161, eL_law_162, eL_law_163, eL_law_164, eL_law_165, eL_law_166, fx0, fx1, fx2, fx3, fx4, nl_int, nl_ref, nl_none, nl_ti, rz_nil, rz_int, rz_ref, rz_long, cf1, cf2, Option.toList_some, Option.toList_none, List.cons_append, List.nil_append, i1, i2, i3, c1, c2, c3, a1, a2, a3, true_and]
  refine aC.mono (op_feed (d := 0) hI _) (fun r σ1 h => ?_)
  obtain ⟨r2, σ2, hs, ⟨v, rfl, rfl⟩, hI2⟩ := h
  simp only [eL_law_169, eL_law_170, eL_law_171, eL_law_172, eL_law_173, eL_law_174, eL_law_175, fx0, fx1, fx2, fx3, fx4, nl_int, nl_ref, nl_none, nl_ti, rz_nil, rz_int, rz_ref, rz_long, cf1, cf2, Option.toList_some, Option.toList_none, List.cons_append, List.nil_append, i1, i2, i3, c1, c2, c3, a1, a2, a3, true_and]
  refine aC.of hs ?_
  simp only [eL_law_178, eL_law_836, eL_law_839, fx0, fx1, fx2, fx3, fx4, nl_int, nl_ref, nl_none, nl_ti, rz_nil, rz_int, rz_ref, rz_long, cf1, cf2, Option.toList_some, Option.toList_none, List.cons_append, List.nil_append, if_true, a4]
  exact ih σ2 hI2
set_option maxHeartbeats 4000000 in
theorem law_contract {q : Nat × (Nat → Int32)} (hq : q.1 ≤ 256) {i : Nat} (hi : i + 4 ≤ q.1) {σ : aW} (hI : Inv σ) (ih : ∀ σ', Inv σ' → lG l q (i + 4) σ') : aE l 30 (some q) 11 cL_law (some .boolean) lQ 183 [some (.ref 132), some (.ref 0), some (.ref 109), some (.int (nI i))] [] σ := by
  have i1 : vp_in (nI (i + 1)) q.1 := in256 (by omega) hq
  have i2 : vp_in (nI (i + 2)) q.1 := in256 (by omega) hq
  have i3 : vp_in (nI (i + 3)) q.1 := in256 (by omega) hq
  have c1 : (nI (i + 1)).toNatClampNeg = i + 1 := nic (by omega)
  have c2 : (nI (i + 2)).toNatClampNeg = i + 2 := nic (by omega)
  have c3 : (nI (i + 3)).toNatClampNeg = i + 3 := nic (by omega)
  have a1 : nI i + 1 = nI (i + 1) := nI_add i 1
  have a2 : nI i + 2 = nI (i + 2) := nI_add i 2
  have a3 : nI i + 3 = nI (i + 3) := nI_add i 3
  have a4 : nI i + 4 = nI (i + 4) := nI_add i 4
  simp only [eL_law_183, eL_law_184, fx0, fx1, fx2, fx3, fx4, nl_int, nl_ref, nl_none, nl_ti, rz_nil, rz_int, rz_ref, rz_long, cf1, cf2, Option.toList_some, Option.toList_none, List.cons_append, List.nil_append, i1, i2, i3, c1, c2, c3, a1, a2, a3, true_and]
  refine aC.mono (op_contract (d := 0) hI) (fun r σ1 h => ?_)
  obtain ⟨r2, σ2, hs, ⟨v, rfl, rfl⟩, hI2⟩ := h
  simp only [eL_law_187, eL_law_188, fx0, fx1, fx2, fx3, fx4, nl_int, nl_ref, nl_none, nl_ti, rz_nil, rz_int, rz_ref, rz_long, cf1, cf2, Option.toList_some, Option.toList_none, List.cons_append, List.nil_append, i1, i2, i3, c1, c2, c3, a1, a2, a3, true_and]
  refine aC.of hs ?_
  simp only [eL_law_191, eL_law_836, eL_law_839, fx0, fx1, fx2, fx3, fx4, nl_int, nl_ref, nl_none, nl_ti, rz_nil, rz_int, rz_ref, rz_long, cf1, cf2, Option.toList_some, Option.toList_none, List.cons_append, List.nil_append, if_true, a4]
  exact ih σ2 hI2
set_option maxHeartbeats 4000000 in
theorem law_fault {q : Nat × (Nat → Int32)} (hq : q.1 ≤ 256) {i : Nat} (hi : i + 4 ≤ q.1) {σ : aW} (hI : Inv σ) (ih : ∀ σ', Inv σ' → lG l q (i + 4) σ') : aE l 30 (some q) 11 cL_law (some .boolean) lQ 196 [some (.ref 132), some (.ref 0), some (.ref 109), some (.int (nI i))] [] σ := by
  have i1 : vp_in (nI (i + 1)) q.1 := in256 (by omega) hq
  have i2 : vp_in (nI (i + 2)) q.1 := in256 (by omega) hq
  have i3 : vp_in (nI (i + 3)) q.1 := in256 (by omega) hq
  have c1 : (nI (i + 1)).toNatClampNeg = i + 1 := nic (by omega)
  have c2 : (nI (i + 2)).toNatClampNeg = i + 2 := nic (by omega)
  have c3 : (nI (i + 3)).toNatClampNeg = i + 3 := nic (by omega)
  have a1 : nI i + 1 = nI (i + 1) := nI_add i 1
  have a2 : nI i + 2 = nI (i + 2) := nI_add i 2
  have a3 : nI i + 3 = nI (i + 3) := nI_add i 3
  have a4 : nI i + 4 = nI (i + 4) := nI_add i 4
  simp only [eL_law_196, eL_law_197, fx0, fx1, fx2, fx3, fx4, nl_int, nl_ref, nl_none, nl_ti, rz_nil, rz_int, rz_ref, rz_long, cf1, cf2, Option.toList_some, Option.toList_none, List.cons_append, List.nil_append, i1, i2, i3, c1, c2, c3, a1, a2, a3, true_and]
  refine aC.mono (op_fault (d := 0) hI) (fun r σ1 h => ?_)
  obtain ⟨r2, σ2, hs, ⟨v, rfl, rfl⟩, hI2⟩ := h
  simp only [eL_law_200, eL_law_201, fx0, fx1, fx2, fx3, fx4, nl_int, nl_ref, nl_none, nl_ti, rz_nil, rz_int, rz_ref, rz_long, cf1, cf2, Option.toList_some, Option.toList_none, List.cons_append, List.nil_append, i1, i2, i3, c1, c2, c3, a1, a2, a3, true_and]
  refine aC.of hs ?_
  simp only [eL_law_204, eL_law_836, eL_law_839, fx0, fx1, fx2, fx3, fx4, nl_int, nl_ref, nl_none, nl_ti, rz_nil, rz_int, rz_ref, rz_long, cf1, cf2, Option.toList_some, Option.toList_none, List.cons_append, List.nil_append, if_true, a4]
  exact ih σ2 hI2
set_option maxHeartbeats 4000000 in
theorem law_told {q : Nat × (Nat → Int32)} (hq : q.1 ≤ 256) {i : Nat} (hi : i + 4 ≤ q.1) {σ : aW} (hI : Inv σ) (ih : ∀ σ', Inv σ' → lG l q (i + 4) σ') : aE l 30 (some q) 11 cL_law (some .boolean) lQ 209 [some (.ref 132), some (.ref 0), some (.ref 109), some (.int (nI i))] [] σ := by
  have i1 : vp_in (nI (i + 1)) q.1 := in256 (by omega) hq
  have i2 : vp_in (nI (i + 2)) q.1 := in256 (by omega) hq
  have i3 : vp_in (nI (i + 3)) q.1 := in256 (by omega) hq
  have c1 : (nI (i + 1)).toNatClampNeg = i + 1 := nic (by omega)
  have c2 : (nI (i + 2)).toNatClampNeg = i + 2 := nic (by omega)
  have c3 : (nI (i + 3)).toNatClampNeg = i + 3 := nic (by omega)
  have a1 : nI i + 1 = nI (i + 1) := nI_add i 1
  have a2 : nI i + 2 = nI (i + 2) := nI_add i 2
  have a3 : nI i + 3 = nI (i + 3) := nI_add i 3
  have a4 : nI i + 4 = nI (i + 4) := nI_add i 4
  simp only [eL_law_209, eL_law_210, eL_law_211, eL_law_212, eL_law_213, eL_law_214, eL_law_215, fx0, fx1, fx2, fx3, fx4, nl_int, nl_ref, nl_none, nl_ti, rz_nil, rz_int, rz_ref, rz_long, cf1, cf2, Option.toList_some, Option.toList_none, List.cons_append, List.nil_append, i1, i2, i3, c1, c2, c3, a1, a2, a3, true_and]
  refine aC.mono (op_told (d := 0) hI _) (fun r σ1 h => ?_)
  obtain ⟨r2, σ2, hs, ⟨v, rfl, rfl⟩, hI2⟩ := h
  simp only [eL_law_218, eL_law_219, eL_law_220, eL_law_221, eL_law_222, eL_law_223, eL_law_224, fx0, fx1, fx2, fx3, fx4, nl_int, nl_ref, nl_none, nl_ti, rz_nil, rz_int, rz_ref, rz_long, cf1, cf2, Option.toList_some, Option.toList_none, List.cons_append, List.nil_append, i1, i2, i3, c1, c2, c3, a1, a2, a3, true_and]
  refine aC.of hs ?_
  simp only [eL_law_227, eL_law_836, eL_law_839, fx0, fx1, fx2, fx3, fx4, nl_int, nl_ref, nl_none, nl_ti, rz_nil, rz_int, rz_ref, rz_long, cf1, cf2, Option.toList_some, Option.toList_none, List.cons_append, List.nil_append, if_true, a4]
  exact ih σ2 hI2
set_option maxHeartbeats 4000000 in
theorem law_watcher {q : Nat × (Nat → Int32)} (hq : q.1 ≤ 256) {i : Nat} (hi : i + 4 ≤ q.1) {σ : aW} (hI : Inv σ) (ih : ∀ σ', Inv σ' → lG l q (i + 4) σ') : aE l 30 (some q) 11 cL_law (some .boolean) lQ 232 [some (.ref 132), some (.ref 0), some (.ref 109), some (.int (nI i))] [] σ := by
  have i1 : vp_in (nI (i + 1)) q.1 := in256 (by omega) hq
  have i2 : vp_in (nI (i + 2)) q.1 := in256 (by omega) hq
  have i3 : vp_in (nI (i + 3)) q.1 := in256 (by omega) hq
  have c1 : (nI (i + 1)).toNatClampNeg = i + 1 := nic (by omega)
  have c2 : (nI (i + 2)).toNatClampNeg = i + 2 := nic (by omega)
  have c3 : (nI (i + 3)).toNatClampNeg = i + 3 := nic (by omega)
  have a1 : nI i + 1 = nI (i + 1) := nI_add i 1
  have a2 : nI i + 2 = nI (i + 2) := nI_add i 2
  have a3 : nI i + 3 = nI (i + 3) := nI_add i 3
  have a4 : nI i + 4 = nI (i + 4) := nI_add i 4
  simp only [eL_law_232, eL_law_233, eL_law_234, eL_law_235, eL_law_236, eL_law_237, eL_law_238, eL_law_239, eL_law_240, eL_law_241, eL_law_242, eL_law_243, fx0, fx1, fx2, fx3, fx4, nl_int, nl_ref, nl_none, nl_ti, rz_nil, rz_int, rz_ref, rz_long, cf1, cf2, Option.toList_some, Option.toList_none, List.cons_append, List.nil_append, i1, i2, i3, c1, c2, c3, a1, a2, a3, true_and]
  refine aC.mono (op_watcher (d := 0) hI _ _) (fun r σ1 h => ?_)
  obtain ⟨r2, σ2, hs, ⟨v, rfl, rfl⟩, hI2⟩ := h
  simp only [eL_law_246, eL_law_247, eL_law_248, eL_law_249, eL_law_250, eL_law_251, eL_law_252, eL_law_253, eL_law_254, eL_law_255, eL_law_256, eL_law_257, fx0, fx1, fx2, fx3, fx4, nl_int, nl_ref, nl_none, nl_ti, rz_nil, rz_int, rz_ref, rz_long, cf1, cf2, Option.toList_some, Option.toList_none, List.cons_append, List.nil_append, i1, i2, i3, c1, c2, c3, a1, a2, a3, true_and]
  refine aC.of hs ?_
  simp only [eL_law_260, eL_law_836, eL_law_839, fx0, fx1, fx2, fx3, fx4, nl_int, nl_ref, nl_none, nl_ti, rz_nil, rz_int, rz_ref, rz_long, cf1, cf2, Option.toList_some, Option.toList_none, List.cons_append, List.nil_append, if_true, a4]
  exact ih σ2 hI2
set_option maxHeartbeats 4000000 in
theorem law_sleeper {q : Nat × (Nat → Int32)} (hq : q.1 ≤ 256) {i : Nat} (hi : i + 4 ≤ q.1) {σ : aW} (hI : Inv σ) (ih : ∀ σ', Inv σ' → lG l q (i + 4) σ') : aE l 30 (some q) 11 cL_law (some .boolean) lQ 265 [some (.ref 132), some (.ref 0), some (.ref 109), some (.int (nI i))] [] σ := by
  have i1 : vp_in (nI (i + 1)) q.1 := in256 (by omega) hq
  have i2 : vp_in (nI (i + 2)) q.1 := in256 (by omega) hq
  have i3 : vp_in (nI (i + 3)) q.1 := in256 (by omega) hq
  have c1 : (nI (i + 1)).toNatClampNeg = i + 1 := nic (by omega)
  have c2 : (nI (i + 2)).toNatClampNeg = i + 2 := nic (by omega)
  have c3 : (nI (i + 3)).toNatClampNeg = i + 3 := nic (by omega)
  have a1 : nI i + 1 = nI (i + 1) := nI_add i 1
  have a2 : nI i + 2 = nI (i + 2) := nI_add i 2
  have a3 : nI i + 3 = nI (i + 3) := nI_add i 3
  have a4 : nI i + 4 = nI (i + 4) := nI_add i 4
  simp only [eL_law_265, eL_law_266, eL_law_267, eL_law_268, eL_law_269, eL_law_270, eL_law_271, fx0, fx1, fx2, fx3, fx4, nl_int, nl_ref, nl_none, nl_ti, rz_nil, rz_int, rz_ref, rz_long, cf1, cf2, Option.toList_some, Option.toList_none, List.cons_append, List.nil_append, i1, i2, i3, c1, c2, c3, a1, a2, a3, true_and]
  refine aC.mono (op_sleeper (d := 0) hI _) (fun r σ1 h => ?_)
  obtain ⟨r2, σ2, hs, ⟨v, rfl, rfl⟩, hI2⟩ := h
  simp only [eL_law_274, eL_law_275, eL_law_276, eL_law_277, eL_law_278, eL_law_279, eL_law_280, fx0, fx1, fx2, fx3, fx4, nl_int, nl_ref, nl_none, nl_ti, rz_nil, rz_int, rz_ref, rz_long, cf1, cf2, Option.toList_some, Option.toList_none, List.cons_append, List.nil_append, i1, i2, i3, c1, c2, c3, a1, a2, a3, true_and]
  refine aC.of hs ?_
  simp only [eL_law_283, eL_law_836, eL_law_839, fx0, fx1, fx2, fx3, fx4, nl_int, nl_ref, nl_none, nl_ti, rz_nil, rz_int, rz_ref, rz_long, cf1, cf2, Option.toList_some, Option.toList_none, List.cons_append, List.nil_append, if_true, a4]
  exact ih σ2 hI2
set_option maxHeartbeats 4000000 in
theorem law_hour {q : Nat × (Nat → Int32)} (hq : q.1 ≤ 256) {i : Nat} (hi : i + 4 ≤ q.1) {σ : aW} (hI : Inv σ) (ih : ∀ σ', Inv σ' → lG l q (i + 4) σ') : aE l 30 (some q) 11 cL_law (some .boolean) lQ 288 [some (.ref 132), some (.ref 0), some (.ref 109), some (.int (nI i))] [] σ := by
  have i1 : vp_in (nI (i + 1)) q.1 := in256 (by omega) hq
  have i2 : vp_in (nI (i + 2)) q.1 := in256 (by omega) hq
  have i3 : vp_in (nI (i + 3)) q.1 := in256 (by omega) hq
  have c1 : (nI (i + 1)).toNatClampNeg = i + 1 := nic (by omega)
  have c2 : (nI (i + 2)).toNatClampNeg = i + 2 := nic (by omega)
  have c3 : (nI (i + 3)).toNatClampNeg = i + 3 := nic (by omega)
  have a1 : nI i + 1 = nI (i + 1) := nI_add i 1
  have a2 : nI i + 2 = nI (i + 2) := nI_add i 2
  have a3 : nI i + 3 = nI (i + 3) := nI_add i 3
  have a4 : nI i + 4 = nI (i + 4) := nI_add i 4
  by_cases e : q.2 (i + 2) = 0
  · have e1 := e
    simp only [eL_law_288, eL_law_289, eL_law_290, eL_law_291, eL_law_292, eL_law_293, eL_law_294, eL_law_295, eL_law_296, eL_law_297, eL_law_298, eL_law_299, eL_law_302, eL_law_303, eL_law_306, eL_law_307, fx0, fx1, fx2, fx3, fx4, nl_int, nl_ref, nl_none, nl_ti, rz_nil, rz_int, rz_ref, rz_long, cf1, cf2, Option.toList_some, Option.toList_none, List.cons_append, List.nil_append, i1, i2, i3, c1, c2, c3, a1, a2, a3, true_and, e, if_true]
    refine aC.mono (op_hour (d := 0) hI _ 0 (Or.inl rfl)) (fun r σ1 h => ?_)
    obtain ⟨r2, σ2, hs, ⟨v, rfl, rfl⟩, hI2⟩ := h
    simp only [eL_law_310, eL_law_311, eL_law_312, eL_law_313, eL_law_314, eL_law_315, eL_law_316, eL_law_317, eL_law_318, eL_law_319, eL_law_320, eL_law_321, eL_law_324, eL_law_325, eL_law_328, eL_law_329, fx0, fx1, fx2, fx3, fx4, nl_int, nl_ref, nl_none, nl_ti, rz_nil, rz_int, rz_ref, rz_long, cf1, cf2, Option.toList_some, Option.toList_none, List.cons_append, List.nil_append, i1, i2, i3, c1, c2, c3, a1, a2, a3, true_and, e, if_true]
    refine aC.of hs ?_
    simp only [eL_law_332, eL_law_836, eL_law_839, fx0, fx1, fx2, fx3, fx4, nl_int, nl_ref, nl_none, nl_ti, rz_nil, rz_int, rz_ref, rz_long, cf1, cf2, Option.toList_some, Option.toList_none, List.cons_append, List.nil_append, if_true, a4]
    exact ih σ2 hI2
  · have e1 := e
    simp only [eL_law_288, eL_law_289, eL_law_290, eL_law_291, eL_law_292, eL_law_293, eL_law_294, eL_law_295, eL_law_296, eL_law_297, eL_law_298, eL_law_299, eL_law_302, eL_law_303, eL_law_306, eL_law_307, fx0, fx1, fx2, fx3, fx4, nl_int, nl_ref, nl_none, nl_ti, rz_nil, rz_int, rz_ref, rz_long, cf1, cf2, Option.toList_some, Option.toList_none, List.cons_append, List.nil_append, i1, i2, i3, c1, c2, c3, a1, a2, a3, true_and, e, if_false]
    refine aC.mono (op_hour (d := 0) hI _ 1 (Or.inr rfl)) (fun r σ1 h => ?_)
    obtain ⟨r2, σ2, hs, ⟨v, rfl, rfl⟩, hI2⟩ := h
    simp only [eL_law_310, eL_law_311, eL_law_312, eL_law_313, eL_law_314, eL_law_315, eL_law_316, eL_law_317, eL_law_318, eL_law_319, eL_law_320, eL_law_321, eL_law_324, eL_law_325, eL_law_328, eL_law_329, fx0, fx1, fx2, fx3, fx4, nl_int, nl_ref, nl_none, nl_ti, rz_nil, rz_int, rz_ref, rz_long, cf1, cf2, Option.toList_some, Option.toList_none, List.cons_append, List.nil_append, i1, i2, i3, c1, c2, c3, a1, a2, a3, true_and, e, if_false]
    refine aC.of hs ?_
    simp only [eL_law_332, eL_law_836, eL_law_839, fx0, fx1, fx2, fx3, fx4, nl_int, nl_ref, nl_none, nl_ti, rz_nil, rz_int, rz_ref, rz_long, cf1, cf2, Option.toList_some, Option.toList_none, List.cons_append, List.nil_append, if_true, a4]
    exact ih σ2 hI2
set_option maxHeartbeats 4000000 in
theorem law_coffee {q : Nat × (Nat → Int32)} (hq : q.1 ≤ 256) {i : Nat} (hi : i + 4 ≤ q.1) {σ : aW} (hI : Inv σ) (ih : ∀ σ', Inv σ' → lG l q (i + 4) σ') : aE l 30 (some q) 11 cL_law (some .boolean) lQ 337 [some (.ref 132), some (.ref 0), some (.ref 109), some (.int (nI i))] [] σ := by
  have i1 : vp_in (nI (i + 1)) q.1 := in256 (by omega) hq
  have i2 : vp_in (nI (i + 2)) q.1 := in256 (by omega) hq
  have i3 : vp_in (nI (i + 3)) q.1 := in256 (by omega) hq
  have c1 : (nI (i + 1)).toNatClampNeg = i + 1 := nic (by omega)
  have c2 : (nI (i + 2)).toNatClampNeg = i + 2 := nic (by omega)
  have c3 : (nI (i + 3)).toNatClampNeg = i + 3 := nic (by omega)
  have a1 : nI i + 1 = nI (i + 1) := nI_add i 1
  have a2 : nI i + 2 = nI (i + 2) := nI_add i 2
  have a3 : nI i + 3 = nI (i + 3) := nI_add i 3
  have a4 : nI i + 4 = nI (i + 4) := nI_add i 4
  simp only [eL_law_337, eL_law_338, eL_law_339, eL_law_340, eL_law_341, eL_law_342, eL_law_343, fx0, fx1, fx2, fx3, fx4, nl_int, nl_ref, nl_none, nl_ti, rz_nil, rz_int, rz_ref, rz_long, cf1, cf2, Option.toList_some, Option.toList_none, List.cons_append, List.nil_append, i1, i2, i3, c1, c2, c3, a1, a2, a3, true_and]
  refine aC.mono (op_coffee (d := 0) hI _) (fun r σ1 h => ?_)
  obtain ⟨r2, σ2, hs, ⟨v, rfl, rfl⟩, hI2⟩ := h
  simp only [eL_law_346, eL_law_347, eL_law_348, eL_law_349, eL_law_350, eL_law_351, eL_law_352, fx0, fx1, fx2, fx3, fx4, nl_int, nl_ref, nl_none, nl_ti, rz_nil, rz_int, rz_ref, rz_long, cf1, cf2, Option.toList_some, Option.toList_none, List.cons_append, List.nil_append, i1, i2, i3, c1, c2, c3, a1, a2, a3, true_and]
  refine aC.of hs ?_
  simp only [eL_law_355, eL_law_836, eL_law_839, fx0, fx1, fx2, fx3, fx4, nl_int, nl_ref, nl_none, nl_ti, rz_nil, rz_int, rz_ref, rz_long, cf1, cf2, Option.toList_some, Option.toList_none, List.cons_append, List.nil_append, if_true, a4]
  exact ih σ2 hI2
set_option maxHeartbeats 4000000 in
theorem law_rest {q : Nat × (Nat → Int32)} (hq : q.1 ≤ 256) {i : Nat} (hi : i + 4 ≤ q.1) {σ : aW} (hI : Inv σ) (ih : ∀ σ', Inv σ' → lG l q (i + 4) σ') : aE l 30 (some q) 11 cL_law (some .boolean) lQ 360 [some (.ref 132), some (.ref 0), some (.ref 109), some (.int (nI i))] [] σ := by
  have i1 : vp_in (nI (i + 1)) q.1 := in256 (by omega) hq
  have i2 : vp_in (nI (i + 2)) q.1 := in256 (by omega) hq
  have i3 : vp_in (nI (i + 3)) q.1 := in256 (by omega) hq
  have c1 : (nI (i + 1)).toNatClampNeg = i + 1 := nic (by omega)
  have c2 : (nI (i + 2)).toNatClampNeg = i + 2 := nic (by omega)
  have c3 : (nI (i + 3)).toNatClampNeg = i + 3 := nic (by omega)
  have a1 : nI i + 1 = nI (i + 1) := nI_add i 1
  have a2 : nI i + 2 = nI (i + 2) := nI_add i 2
  have a3 : nI i + 3 = nI (i + 3) := nI_add i 3
  have a4 : nI i + 4 = nI (i + 4) := nI_add i 4
  simp only [eL_law_360, eL_law_361, eL_law_362, eL_law_363, eL_law_364, eL_law_365, eL_law_366, fx0, fx1, fx2, fx3, fx4, nl_int, nl_ref, nl_none, nl_ti, rz_nil, rz_int, rz_ref, rz_long, cf1, cf2, Option.toList_some, Option.toList_none, List.cons_append, List.nil_append, i1, i2, i3, c1, c2, c3, a1, a2, a3, true_and]
  refine aC.mono (op_rest (d := 0) hI _) (fun r σ1 h => ?_)
  obtain ⟨r2, σ2, hs, ⟨v, rfl, rfl⟩, hI2⟩ := h
  simp only [eL_law_369, eL_law_370, eL_law_371, eL_law_372, eL_law_373, eL_law_374, eL_law_375, fx0, fx1, fx2, fx3, fx4, nl_int, nl_ref, nl_none, nl_ti, rz_nil, rz_int, rz_ref, rz_long, cf1, cf2, Option.toList_some, Option.toList_none, List.cons_append, List.nil_append, i1, i2, i3, c1, c2, c3, a1, a2, a3, true_and]
  refine aC.of hs ?_
  simp only [eL_law_378, eL_law_836, eL_law_839, fx0, fx1, fx2, fx3, fx4, nl_int, nl_ref, nl_none, nl_ti, rz_nil, rz_int, rz_ref, rz_long, cf1, cf2, Option.toList_some, Option.toList_none, List.cons_append, List.nil_append, if_true, a4]
  exact ih σ2 hI2
set_option maxHeartbeats 4000000 in
theorem law_drift {q : Nat × (Nat → Int32)} (hq : q.1 ≤ 256) {i : Nat} (hi : i + 4 ≤ q.1) {σ : aW} (hI : Inv σ) (ih : ∀ σ', Inv σ' → lG l q (i + 4) σ') : aE l 30 (some q) 11 cL_law (some .boolean) lQ 383 [some (.ref 132), some (.ref 0), some (.ref 109), some (.int (nI i))] [] σ := by
  have i1 : vp_in (nI (i + 1)) q.1 := in256 (by omega) hq
  have i2 : vp_in (nI (i + 2)) q.1 := in256 (by omega) hq
  have i3 : vp_in (nI (i + 3)) q.1 := in256 (by omega) hq
  have c1 : (nI (i + 1)).toNatClampNeg = i + 1 := nic (by omega)
  have c2 : (nI (i + 2)).toNatClampNeg = i + 2 := nic (by omega)
  have c3 : (nI (i + 3)).toNatClampNeg = i + 3 := nic (by omega)
  have a1 : nI i + 1 = nI (i + 1) := nI_add i 1
  have a2 : nI i + 2 = nI (i + 2) := nI_add i 2
  have a3 : nI i + 3 = nI (i + 3) := nI_add i 3
  have a4 : nI i + 4 = nI (i + 4) := nI_add i 4
  simp only [eL_law_383, eL_law_384, eL_law_385, eL_law_386, eL_law_387, eL_law_388, eL_law_389, fx0, fx1, fx2, fx3, fx4, nl_int, nl_ref, nl_none, nl_ti, rz_nil, rz_int, rz_ref, rz_long, cf1, cf2, Option.toList_some, Option.toList_none, List.cons_append, List.nil_append, i1, i2, i3, c1, c2, c3, a1, a2, a3, true_and]
  refine aC.mono (op_drift (d := 0) hI _) (fun r σ1 h => ?_)
  obtain ⟨r2, σ2, hs, ⟨v, rfl, rfl⟩, hI2⟩ := h
  simp only [eL_law_392, eL_law_393, eL_law_394, eL_law_395, eL_law_396, eL_law_397, eL_law_398, fx0, fx1, fx2, fx3, fx4, nl_int, nl_ref, nl_none, nl_ti, rz_nil, rz_int, rz_ref, rz_long, cf1, cf2, Option.toList_some, Option.toList_none, List.cons_append, List.nil_append, i1, i2, i3, c1, c2, c3, a1, a2, a3, true_and]
  refine aC.of hs ?_
  simp only [eL_law_401, eL_law_836, eL_law_839, fx0, fx1, fx2, fx3, fx4, nl_int, nl_ref, nl_none, nl_ti, rz_nil, rz_int, rz_ref, rz_long, cf1, cf2, Option.toList_some, Option.toList_none, List.cons_append, List.nil_append, if_true, a4]
  exact ih σ2 hI2
set_option maxHeartbeats 4000000 in
theorem law_undo {q : Nat × (Nat → Int32)} (hq : q.1 ≤ 256) {i : Nat} (hi : i + 4 ≤ q.1) {σ : aW} (hI : Inv σ) (ih : ∀ σ', Inv σ' → lG l q (i + 4) σ') : aE l 30 (some q) 11 cL_law (some .boolean) lQ 406 [some (.ref 132), some (.ref 0), some (.ref 109), some (.int (nI i))] [] σ := by
  have i1 : vp_in (nI (i + 1)) q.1 := in256 (by omega) hq
  have i2 : vp_in (nI (i + 2)) q.1 := in256 (by omega) hq
  have i3 : vp_in (nI (i + 3)) q.1 := in256 (by omega) hq
  have c1 : (nI (i + 1)).toNatClampNeg = i + 1 := nic (by omega)
  have c2 : (nI (i + 2)).toNatClampNeg = i + 2 := nic (by omega)
  have c3 : (nI (i + 3)).toNatClampNeg = i + 3 := nic (by omega)
  have a1 : nI i + 1 = nI (i + 1) := nI_add i 1
  have a2 : nI i + 2 = nI (i + 2) := nI_add i 2
  have a3 : nI i + 3 = nI (i + 3) := nI_add i 3
  have a4 : nI i + 4 = nI (i + 4) := nI_add i 4
  simp only [eL_law_406, eL_law_407, fx0, fx1, fx2, fx3, fx4, nl_int, nl_ref, nl_none, nl_ti, rz_nil, rz_int, rz_ref, rz_long, cf1, cf2, Option.toList_some, Option.toList_none, List.cons_append, List.nil_append, i1, i2, i3, c1, c2, c3, a1, a2, a3, true_and]
  refine aC.mono (op_undo (d := 0) hI) (fun r σ1 h => ?_)
  obtain ⟨r2, σ2, hs, ⟨v, rfl, rfl⟩, hI2⟩ := h
  simp only [eL_law_410, eL_law_411, fx0, fx1, fx2, fx3, fx4, nl_int, nl_ref, nl_none, nl_ti, rz_nil, rz_int, rz_ref, rz_long, cf1, cf2, Option.toList_some, Option.toList_none, List.cons_append, List.nil_append, i1, i2, i3, c1, c2, c3, a1, a2, a3, true_and]
  refine aC.of hs ?_
  simp only [eL_law_414, eL_law_836, eL_law_839, fx0, fx1, fx2, fx3, fx4, nl_int, nl_ref, nl_none, nl_ti, rz_nil, rz_int, rz_ref, rz_long, cf1, cf2, Option.toList_some, Option.toList_none, List.cons_append, List.nil_append, if_true, a4]
  exact ih σ2 hI2
set_option maxHeartbeats 4000000 in
theorem law_watches {q : Nat × (Nat → Int32)} (hq : q.1 ≤ 256) {i : Nat} (hi : i + 4 ≤ q.1) {σ : aW} (hI : Inv σ) (ih : ∀ σ', Inv σ' → lG l q (i + 4) σ') : aE l 30 (some q) 11 cL_law (some .boolean) lQ 419 [some (.ref 132), some (.ref 0), some (.ref 109), some (.int (nI i))] [] σ := by
  have i1 : vp_in (nI (i + 1)) q.1 := in256 (by omega) hq
  have i2 : vp_in (nI (i + 2)) q.1 := in256 (by omega) hq
  have i3 : vp_in (nI (i + 3)) q.1 := in256 (by omega) hq
  have c1 : (nI (i + 1)).toNatClampNeg = i + 1 := nic (by omega)
  have c2 : (nI (i + 2)).toNatClampNeg = i + 2 := nic (by omega)
  have c3 : (nI (i + 3)).toNatClampNeg = i + 3 := nic (by omega)
  have a1 : nI i + 1 = nI (i + 1) := nI_add i 1
  have a2 : nI i + 2 = nI (i + 2) := nI_add i 2
  have a3 : nI i + 3 = nI (i + 3) := nI_add i 3
  have a4 : nI i + 4 = nI (i + 4) := nI_add i 4
  simp only [eL_law_419, eL_law_420, eL_law_421, eL_law_422, eL_law_423, eL_law_424, eL_law_425, fx0, fx1, fx2, fx3, fx4, nl_int, nl_ref, nl_none, nl_ti, rz_nil, rz_int, rz_ref, rz_long, cf1, cf2, Option.toList_some, Option.toList_none, List.cons_append, List.nil_append, i1, i2, i3, c1, c2, c3, a1, a2, a3, true_and]
  refine aC.mono (op_watches (d := 0) hI _) (fun r σ1 h => ?_)
  obtain ⟨r2, σ2, hs, ⟨v, rfl, rfl⟩, hI2⟩ := h
  simp only [eL_law_428, eL_law_429, eL_law_430, eL_law_431, eL_law_432, eL_law_433, eL_law_434, fx0, fx1, fx2, fx3, fx4, nl_int, nl_ref, nl_none, nl_ti, rz_nil, rz_int, rz_ref, rz_long, cf1, cf2, Option.toList_some, Option.toList_none, List.cons_append, List.nil_append, i1, i2, i3, c1, c2, c3, a1, a2, a3, true_and]
  refine aC.of hs ?_
  simp only [eL_law_437, eL_law_836, eL_law_839, fx0, fx1, fx2, fx3, fx4, nl_int, nl_ref, nl_none, nl_ti, rz_nil, rz_int, rz_ref, rz_long, cf1, cf2, Option.toList_some, Option.toList_none, List.cons_append, List.nil_append, if_true, a4]
  exact ih σ2 hI2
set_option maxHeartbeats 4000000 in
theorem law_bellHour {q : Nat × (Nat → Int32)} (hq : q.1 ≤ 256) {i : Nat} (hi : i + 4 ≤ q.1) {σ : aW} (hI : Inv σ) (ih : ∀ σ', Inv σ' → lG l q (i + 4) σ') : aE l 30 (some q) 11 cL_law (some .boolean) lQ 442 [some (.ref 132), some (.ref 0), some (.ref 109), some (.int (nI i))] [] σ := by
  have i1 : vp_in (nI (i + 1)) q.1 := in256 (by omega) hq
  have i2 : vp_in (nI (i + 2)) q.1 := in256 (by omega) hq
  have i3 : vp_in (nI (i + 3)) q.1 := in256 (by omega) hq
  have c1 : (nI (i + 1)).toNatClampNeg = i + 1 := nic (by omega)
  have c2 : (nI (i + 2)).toNatClampNeg = i + 2 := nic (by omega)
  have c3 : (nI (i + 3)).toNatClampNeg = i + 3 := nic (by omega)
  have a1 : nI i + 1 = nI (i + 1) := nI_add i 1
  have a2 : nI i + 2 = nI (i + 2) := nI_add i 2
  have a3 : nI i + 3 = nI (i + 3) := nI_add i 3
  have a4 : nI i + 4 = nI (i + 4) := nI_add i 4
  simp only [eL_law_442, eL_law_443, eL_law_444, eL_law_445, eL_law_446, eL_law_447, eL_law_448, fx0, fx1, fx2, fx3, fx4, nl_int, nl_ref, nl_none, nl_ti, rz_nil, rz_int, rz_ref, rz_long, cf1, cf2, Option.toList_some, Option.toList_none, List.cons_append, List.nil_append, i1, i2, i3, c1, c2, c3, a1, a2, a3, true_and]
  refine aC.mono (op_bellHour (d := 0) hI _) (fun r σ1 h => ?_)
  obtain ⟨r2, σ2, hs, ⟨v, rfl, rfl⟩, hI2⟩ := h
  simp only [eL_law_451, eL_law_452, eL_law_453, eL_law_454, eL_law_455, eL_law_456, eL_law_457, fx0, fx1, fx2, fx3, fx4, nl_int, nl_ref, nl_none, nl_ti, rz_nil, rz_int, rz_ref, rz_long, cf1, cf2, Option.toList_some, Option.toList_none, List.cons_append, List.nil_append, i1, i2, i3, c1, c2, c3, a1, a2, a3, true_and]
  refine aC.of hs ?_
  simp only [eL_law_460, eL_law_836, eL_law_839, fx0, fx1, fx2, fx3, fx4, nl_int, nl_ref, nl_none, nl_ti, rz_nil, rz_int, rz_ref, rz_long, cf1, cf2, Option.toList_some, Option.toList_none, List.cons_append, List.nil_append, if_true, a4]
  exact ih σ2 hI2
set_option maxHeartbeats 4000000 in
theorem law_coffeeFor {q : Nat × (Nat → Int32)} (hq : q.1 ≤ 256) {i : Nat} (hi : i + 4 ≤ q.1) {σ : aW} (hI : Inv σ) (ih : ∀ σ', Inv σ' → lG l q (i + 4) σ') : aE l 30 (some q) 11 cL_law (some .boolean) lQ 465 [some (.ref 132), some (.ref 0), some (.ref 109), some (.int (nI i))] [] σ := by
  have i1 : vp_in (nI (i + 1)) q.1 := in256 (by omega) hq
  have i2 : vp_in (nI (i + 2)) q.1 := in256 (by omega) hq
  have i3 : vp_in (nI (i + 3)) q.1 := in256 (by omega) hq
  have c1 : (nI (i + 1)).toNatClampNeg = i + 1 := nic (by omega)
  have c2 : (nI (i + 2)).toNatClampNeg = i + 2 := nic (by omega)
  have c3 : (nI (i + 3)).toNatClampNeg = i + 3 := nic (by omega)
  have a1 : nI i + 1 = nI (i + 1) := nI_add i 1
  have a2 : nI i + 2 = nI (i + 2) := nI_add i 2
  have a3 : nI i + 3 = nI (i + 3) := nI_add i 3
  have a4 : nI i + 4 = nI (i + 4) := nI_add i 4
  simp only [eL_law_465, eL_law_466, fx0, fx1, fx2, fx3, fx4, nl_int, nl_ref, nl_none, nl_ti, rz_nil, rz_int, rz_ref, rz_long, cf1, cf2, Option.toList_some, Option.toList_none, List.cons_append, List.nil_append, i1, i2, i3, c1, c2, c3, a1, a2, a3, true_and]
  refine aC.mono (op_coffeeFor (d := 0) hI) (fun r σ1 h => ?_)
  obtain ⟨r2, σ2, hs, ⟨v, rfl, rfl⟩, hI2⟩ := h
  simp only [eL_law_469, eL_law_470, fx0, fx1, fx2, fx3, fx4, nl_int, nl_ref, nl_none, nl_ti, rz_nil, rz_int, rz_ref, rz_long, cf1, cf2, Option.toList_some, Option.toList_none, List.cons_append, List.nil_append, i1, i2, i3, c1, c2, c3, a1, a2, a3, true_and]
  refine aC.of hs ?_
  simp only [eL_law_473, eL_law_836, eL_law_839, fx0, fx1, fx2, fx3, fx4, nl_int, nl_ref, nl_none, nl_ti, rz_nil, rz_int, rz_ref, rz_long, cf1, cf2, Option.toList_some, Option.toList_none, List.cons_append, List.nil_append, if_true, a4]
  exact ih σ2 hI2
set_option maxHeartbeats 4000000 in
theorem law_nights {q : Nat × (Nat → Int32)} (hq : q.1 ≤ 256) {i : Nat} (hi : i + 4 ≤ q.1) {σ : aW} (hI : Inv σ) (ih : ∀ σ', Inv σ' → lG l q (i + 4) σ') : aE l 30 (some q) 11 cL_law (some .boolean) lQ 478 [some (.ref 132), some (.ref 0), some (.ref 109), some (.int (nI i))] [] σ := by
  have i1 : vp_in (nI (i + 1)) q.1 := in256 (by omega) hq
  have i2 : vp_in (nI (i + 2)) q.1 := in256 (by omega) hq
  have i3 : vp_in (nI (i + 3)) q.1 := in256 (by omega) hq
  have c1 : (nI (i + 1)).toNatClampNeg = i + 1 := nic (by omega)
  have c2 : (nI (i + 2)).toNatClampNeg = i + 2 := nic (by omega)
  have c3 : (nI (i + 3)).toNatClampNeg = i + 3 := nic (by omega)
  have a1 : nI i + 1 = nI (i + 1) := nI_add i 1
  have a2 : nI i + 2 = nI (i + 2) := nI_add i 2
  have a3 : nI i + 3 = nI (i + 3) := nI_add i 3
  have a4 : nI i + 4 = nI (i + 4) := nI_add i 4
  simp only [eL_law_478, eL_law_479, eL_law_480, eL_law_481, eL_law_482, eL_law_483, eL_law_484, fx0, fx1, fx2, fx3, fx4, nl_int, nl_ref, nl_none, nl_ti, rz_nil, rz_int, rz_ref, rz_long, cf1, cf2, Option.toList_some, Option.toList_none, List.cons_append, List.nil_append, i1, i2, i3, c1, c2, c3, a1, a2, a3, true_and]
  refine aC.mono (op_nights (d := 0) hI _) (fun r σ1 h => ?_)
  obtain ⟨r2, σ2, hs, ⟨v, rfl, rfl⟩, hI2⟩ := h
  simp only [eL_law_487, eL_law_488, eL_law_489, eL_law_490, eL_law_491, eL_law_492, eL_law_493, fx0, fx1, fx2, fx3, fx4, nl_int, nl_ref, nl_none, nl_ti, rz_nil, rz_int, rz_ref, rz_long, cf1, cf2, Option.toList_some, Option.toList_none, List.cons_append, List.nil_append, i1, i2, i3, c1, c2, c3, a1, a2, a3, true_and]
  refine aC.of hs ?_
  simp only [eL_law_496, eL_law_836, eL_law_839, fx0, fx1, fx2, fx3, fx4, nl_int, nl_ref, nl_none, nl_ti, rz_nil, rz_int, rz_ref, rz_long, cf1, cf2, Option.toList_some, Option.toList_none, List.cons_append, List.nil_append, if_true, a4]
  exact ih σ2 hI2
set_option maxHeartbeats 4000000 in
theorem law_hold {q : Nat × (Nat → Int32)} (hq : q.1 ≤ 256) {i : Nat} (hi : i + 4 ≤ q.1) {σ : aW} (hI : Inv σ) (ih : ∀ σ', Inv σ' → lG l q (i + 4) σ') : aE l 30 (some q) 11 cL_law (some .boolean) lQ 501 [some (.ref 132), some (.ref 0), some (.ref 109), some (.int (nI i))] [] σ := by
  have i1 : vp_in (nI (i + 1)) q.1 := in256 (by omega) hq
  have i2 : vp_in (nI (i + 2)) q.1 := in256 (by omega) hq
  have i3 : vp_in (nI (i + 3)) q.1 := in256 (by omega) hq
  have c1 : (nI (i + 1)).toNatClampNeg = i + 1 := nic (by omega)
  have c2 : (nI (i + 2)).toNatClampNeg = i + 2 := nic (by omega)
  have c3 : (nI (i + 3)).toNatClampNeg = i + 3 := nic (by omega)
  have a1 : nI i + 1 = nI (i + 1) := nI_add i 1
  have a2 : nI i + 2 = nI (i + 2) := nI_add i 2
  have a3 : nI i + 3 = nI (i + 3) := nI_add i 3
  have a4 : nI i + 4 = nI (i + 4) := nI_add i 4
  simp only [eL_law_501, eL_law_502, fx0, fx1, fx2, fx3, fx4, nl_int, nl_ref, nl_none, nl_ti, rz_nil, rz_int, rz_ref, rz_long, cf1, cf2, Option.toList_some, Option.toList_none, List.cons_append, List.nil_append, i1, i2, i3, c1, c2, c3, a1, a2, a3, true_and]
  refine aC.mono (op_hold (d := 0) hI) (fun r σ1 h => ?_)
  obtain ⟨r2, σ2, hs, ⟨v, rfl, rfl⟩, hI2⟩ := h
  simp only [eL_law_505, eL_law_506, fx0, fx1, fx2, fx3, fx4, nl_int, nl_ref, nl_none, nl_ti, rz_nil, rz_int, rz_ref, rz_long, cf1, cf2, Option.toList_some, Option.toList_none, List.cons_append, List.nil_append, i1, i2, i3, c1, c2, c3, a1, a2, a3, true_and]
  refine aC.of hs ?_
  simp only [eL_law_509, eL_law_836, eL_law_839, fx0, fx1, fx2, fx3, fx4, nl_int, nl_ref, nl_none, nl_ti, rz_nil, rz_int, rz_ref, rz_long, cf1, cf2, Option.toList_some, Option.toList_none, List.cons_append, List.nil_append, if_true, a4]
  exact ih σ2 hI2
set_option maxHeartbeats 4000000 in
theorem law_share {q : Nat × (Nat → Int32)} (hq : q.1 ≤ 256) {i : Nat} (hi : i + 4 ≤ q.1) {σ : aW} (hI : Inv σ) (ih : ∀ σ', Inv σ' → lG l q (i + 4) σ') : aE l 30 (some q) 11 cL_law (some .boolean) lQ 514 [some (.ref 132), some (.ref 0), some (.ref 109), some (.int (nI i))] [] σ := by
  have i1 : vp_in (nI (i + 1)) q.1 := in256 (by omega) hq
  have i2 : vp_in (nI (i + 2)) q.1 := in256 (by omega) hq
  have i3 : vp_in (nI (i + 3)) q.1 := in256 (by omega) hq
  have c1 : (nI (i + 1)).toNatClampNeg = i + 1 := nic (by omega)
  have c2 : (nI (i + 2)).toNatClampNeg = i + 2 := nic (by omega)
  have c3 : (nI (i + 3)).toNatClampNeg = i + 3 := nic (by omega)
  have a1 : nI i + 1 = nI (i + 1) := nI_add i 1
  have a2 : nI i + 2 = nI (i + 2) := nI_add i 2
  have a3 : nI i + 3 = nI (i + 3) := nI_add i 3
  have a4 : nI i + 4 = nI (i + 4) := nI_add i 4
  simp only [eL_law_514, eL_law_515, eL_law_516, eL_law_517, eL_law_518, eL_law_519, eL_law_520, fx0, fx1, fx2, fx3, fx4, nl_int, nl_ref, nl_none, nl_ti, rz_nil, rz_int, rz_ref, rz_long, cf1, cf2, Option.toList_some, Option.toList_none, List.cons_append, List.nil_append, i1, i2, i3, c1, c2, c3, a1, a2, a3, true_and]
  refine aC.mono (op_share (d := 0) hI _) (fun r σ1 h => ?_)
  obtain ⟨r2, σ2, hs, ⟨v, rfl, rfl⟩, hI2⟩ := h
  simp only [eL_law_523, eL_law_524, eL_law_525, eL_law_526, eL_law_527, eL_law_528, eL_law_529, fx0, fx1, fx2, fx3, fx4, nl_int, nl_ref, nl_none, nl_ti, rz_nil, rz_int, rz_ref, rz_long, cf1, cf2, Option.toList_some, Option.toList_none, List.cons_append, List.nil_append, i1, i2, i3, c1, c2, c3, a1, a2, a3, true_and]
  refine aC.of hs ?_
  simp only [eL_law_532, eL_law_836, eL_law_839, fx0, fx1, fx2, fx3, fx4, nl_int, nl_ref, nl_none, nl_ti, rz_nil, rz_int, rz_ref, rz_long, cf1, cf2, Option.toList_some, Option.toList_none, List.cons_append, List.nil_append, if_true, a4]
  exact ih σ2 hI2
set_option maxHeartbeats 4000000 in
theorem law_paid {q : Nat × (Nat → Int32)} (hq : q.1 ≤ 256) {i : Nat} (hi : i + 4 ≤ q.1) {σ : aW} (hI : Inv σ) (ih : ∀ σ', Inv σ' → lG l q (i + 4) σ') : aE l 30 (some q) 11 cL_law (some .boolean) lQ 537 [some (.ref 132), some (.ref 0), some (.ref 109), some (.int (nI i))] [] σ := by
  have i1 : vp_in (nI (i + 1)) q.1 := in256 (by omega) hq
  have i2 : vp_in (nI (i + 2)) q.1 := in256 (by omega) hq
  have i3 : vp_in (nI (i + 3)) q.1 := in256 (by omega) hq
  have c1 : (nI (i + 1)).toNatClampNeg = i + 1 := nic (by omega)
  have c2 : (nI (i + 2)).toNatClampNeg = i + 2 := nic (by omega)
  have c3 : (nI (i + 3)).toNatClampNeg = i + 3 := nic (by omega)
  have a1 : nI i + 1 = nI (i + 1) := nI_add i 1
  have a2 : nI i + 2 = nI (i + 2) := nI_add i 2
  have a3 : nI i + 3 = nI (i + 3) := nI_add i 3
  have a4 : nI i + 4 = nI (i + 4) := nI_add i 4
  simp only [eL_law_537, eL_law_538, eL_law_539, eL_law_540, eL_law_541, eL_law_542, eL_law_543, fx0, fx1, fx2, fx3, fx4, nl_int, nl_ref, nl_none, nl_ti, rz_nil, rz_int, rz_ref, rz_long, cf1, cf2, Option.toList_some, Option.toList_none, List.cons_append, List.nil_append, i1, i2, i3, c1, c2, c3, a1, a2, a3, true_and]
  refine aC.mono (op_paid (d := 0) hI _) (fun r σ1 h => ?_)
  obtain ⟨r2, σ2, hs, ⟨v, rfl, rfl⟩, hI2⟩ := h
  simp only [eL_law_546, eL_law_547, eL_law_548, eL_law_549, eL_law_550, eL_law_551, eL_law_552, fx0, fx1, fx2, fx3, fx4, nl_int, nl_ref, nl_none, nl_ti, rz_nil, rz_int, rz_ref, rz_long, cf1, cf2, Option.toList_some, Option.toList_none, List.cons_append, List.nil_append, i1, i2, i3, c1, c2, c3, a1, a2, a3, true_and]
  refine aC.of hs ?_
  simp only [eL_law_555, eL_law_836, eL_law_839, fx0, fx1, fx2, fx3, fx4, nl_int, nl_ref, nl_none, nl_ti, rz_nil, rz_int, rz_ref, rz_long, cf1, cf2, Option.toList_some, Option.toList_none, List.cons_append, List.nil_append, if_true, a4]
  exact ih σ2 hI2
set_option maxHeartbeats 4000000 in
theorem law_blink {q : Nat × (Nat → Int32)} (hq : q.1 ≤ 256) {i : Nat} (hi : i + 4 ≤ q.1) {σ : aW} (hI : Inv σ) (ih : ∀ σ', Inv σ' → lG l q (i + 4) σ') : aE l 30 (some q) 11 cL_law (some .boolean) lQ 560 [some (.ref 132), some (.ref 0), some (.ref 109), some (.int (nI i))] [] σ := by
  have i1 : vp_in (nI (i + 1)) q.1 := in256 (by omega) hq
  have i2 : vp_in (nI (i + 2)) q.1 := in256 (by omega) hq
  have i3 : vp_in (nI (i + 3)) q.1 := in256 (by omega) hq
  have c1 : (nI (i + 1)).toNatClampNeg = i + 1 := nic (by omega)
  have c2 : (nI (i + 2)).toNatClampNeg = i + 2 := nic (by omega)
  have c3 : (nI (i + 3)).toNatClampNeg = i + 3 := nic (by omega)
  have a1 : nI i + 1 = nI (i + 1) := nI_add i 1
  have a2 : nI i + 2 = nI (i + 2) := nI_add i 2
  have a3 : nI i + 3 = nI (i + 3) := nI_add i 3
  have a4 : nI i + 4 = nI (i + 4) := nI_add i 4
  simp only [eL_law_560, eL_law_561, eL_law_562, eL_law_563, eL_law_564, eL_law_565, eL_law_566, eL_law_567, eL_law_568, eL_law_569, eL_law_570, eL_law_571, eL_law_572, eL_law_573, eL_law_574, eL_law_575, eL_law_576, fx0, fx1, fx2, fx3, fx4, nl_int, nl_ref, nl_none, nl_ti, rz_nil, rz_int, rz_ref, rz_long, cf1, cf2, Option.toList_some, Option.toList_none, List.cons_append, List.nil_append, i1, i2, i3, c1, c2, c3, a1, a2, a3, true_and]
  refine aC.mono (op_blink (d := 0) hI _ _ _) (fun r σ1 h => ?_)
  obtain ⟨r2, σ2, hs, ⟨v, rfl, rfl⟩, hI2⟩ := h
  simp only [eL_law_579, eL_law_580, eL_law_581, eL_law_582, eL_law_583, eL_law_584, eL_law_585, eL_law_586, eL_law_587, eL_law_588, eL_law_589, eL_law_590, eL_law_591, eL_law_592, eL_law_593, eL_law_594, eL_law_595, fx0, fx1, fx2, fx3, fx4, nl_int, nl_ref, nl_none, nl_ti, rz_nil, rz_int, rz_ref, rz_long, cf1, cf2, Option.toList_some, Option.toList_none, List.cons_append, List.nil_append, i1, i2, i3, c1, c2, c3, a1, a2, a3, true_and]
  refine aC.of hs ?_
  simp only [eL_law_598, eL_law_836, eL_law_839, fx0, fx1, fx2, fx3, fx4, nl_int, nl_ref, nl_none, nl_ti, rz_nil, rz_int, rz_ref, rz_long, cf1, cf2, Option.toList_some, Option.toList_none, List.cons_append, List.nil_append, if_true, a4]
  exact ih σ2 hI2
set_option maxHeartbeats 4000000 in
theorem law_see {q : Nat × (Nat → Int32)} (hq : q.1 ≤ 256) {i : Nat} (hi : i + 4 ≤ q.1) {σ : aW} (hI : Inv σ) (ih : ∀ σ', Inv σ' → lG l q (i + 4) σ') : aE l 30 (some q) 11 cL_law (some .boolean) lQ 603 [some (.ref 132), some (.ref 0), some (.ref 109), some (.int (nI i))] [] σ := by
  have i1 : vp_in (nI (i + 1)) q.1 := in256 (by omega) hq
  have i2 : vp_in (nI (i + 2)) q.1 := in256 (by omega) hq
  have i3 : vp_in (nI (i + 3)) q.1 := in256 (by omega) hq
  have c1 : (nI (i + 1)).toNatClampNeg = i + 1 := nic (by omega)
  have c2 : (nI (i + 2)).toNatClampNeg = i + 2 := nic (by omega)
  have c3 : (nI (i + 3)).toNatClampNeg = i + 3 := nic (by omega)
  have a1 : nI i + 1 = nI (i + 1) := nI_add i 1
  have a2 : nI i + 2 = nI (i + 2) := nI_add i 2
  have a3 : nI i + 3 = nI (i + 3) := nI_add i 3
  have a4 : nI i + 4 = nI (i + 4) := nI_add i 4
  by_cases e : q.2 (i + 2) = 0
  · have e1 := e
    simp only [eL_law_603, eL_law_604, eL_law_605, eL_law_606, eL_law_607, eL_law_608, eL_law_609, eL_law_610, eL_law_611, eL_law_612, eL_law_613, eL_law_614, eL_law_617, eL_law_618, eL_law_621, eL_law_622, fx0, fx1, fx2, fx3, fx4, nl_int, nl_ref, nl_none, nl_ti, rz_nil, rz_int, rz_ref, rz_long, cf1, cf2, Option.toList_some, Option.toList_none, List.cons_append, List.nil_append, i1, i2, i3, c1, c2, c3, a1, a2, a3, true_and, e, if_true]
    refine aC.mono (op_see (d := 0) hI _ 0 (Or.inl rfl)) (fun r σ1 h => ?_)
    obtain ⟨r2, σ2, hs, ⟨v, rfl, rfl⟩, hI2⟩ := h
    simp only [eL_law_625, eL_law_626, eL_law_627, eL_law_628, eL_law_629, eL_law_630, eL_law_631, eL_law_632, eL_law_633, eL_law_634, eL_law_635, eL_law_636, eL_law_639, eL_law_640, eL_law_643, eL_law_644, fx0, fx1, fx2, fx3, fx4, nl_int, nl_ref, nl_none, nl_ti, rz_nil, rz_int, rz_ref, rz_long, cf1, cf2, Option.toList_some, Option.toList_none, List.cons_append, List.nil_append, i1, i2, i3, c1, c2, c3, a1, a2, a3, true_and, e, if_true]
    refine aC.of hs ?_
    simp only [eL_law_647, eL_law_836, eL_law_839, fx0, fx1, fx2, fx3, fx4, nl_int, nl_ref, nl_none, nl_ti, rz_nil, rz_int, rz_ref, rz_long, cf1, cf2, Option.toList_some, Option.toList_none, List.cons_append, List.nil_append, if_true, a4]
    exact ih σ2 hI2
  · have e1 := e
    simp only [eL_law_603, eL_law_604, eL_law_605, eL_law_606, eL_law_607, eL_law_608, eL_law_609, eL_law_610, eL_law_611, eL_law_612, eL_law_613, eL_law_614, eL_law_617, eL_law_618, eL_law_621, eL_law_622, fx0, fx1, fx2, fx3, fx4, nl_int, nl_ref, nl_none, nl_ti, rz_nil, rz_int, rz_ref, rz_long, cf1, cf2, Option.toList_some, Option.toList_none, List.cons_append, List.nil_append, i1, i2, i3, c1, c2, c3, a1, a2, a3, true_and, e, if_false]
    refine aC.mono (op_see (d := 0) hI _ 1 (Or.inr rfl)) (fun r σ1 h => ?_)
    obtain ⟨r2, σ2, hs, ⟨v, rfl, rfl⟩, hI2⟩ := h
    simp only [eL_law_625, eL_law_626, eL_law_627, eL_law_628, eL_law_629, eL_law_630, eL_law_631, eL_law_632, eL_law_633, eL_law_634, eL_law_635, eL_law_636, eL_law_639, eL_law_640, eL_law_643, eL_law_644, fx0, fx1, fx2, fx3, fx4, nl_int, nl_ref, nl_none, nl_ti, rz_nil, rz_int, rz_ref, rz_long, cf1, cf2, Option.toList_some, Option.toList_none, List.cons_append, List.nil_append, i1, i2, i3, c1, c2, c3, a1, a2, a3, true_and, e, if_false]
    refine aC.of hs ?_
    simp only [eL_law_647, eL_law_836, eL_law_839, fx0, fx1, fx2, fx3, fx4, nl_int, nl_ref, nl_none, nl_ti, rz_nil, rz_int, rz_ref, rz_long, cf1, cf2, Option.toList_some, Option.toList_none, List.cons_append, List.nil_append, if_true, a4]
    exact ih σ2 hI2
set_option maxHeartbeats 4000000 in
theorem law_nodded {q : Nat × (Nat → Int32)} (hq : q.1 ≤ 256) {i : Nat} (hi : i + 4 ≤ q.1) {σ : aW} (hI : Inv σ) (ih : ∀ σ', Inv σ' → lG l q (i + 4) σ') : aE l 30 (some q) 11 cL_law (some .boolean) lQ 652 [some (.ref 132), some (.ref 0), some (.ref 109), some (.int (nI i))] [] σ := by
  have i1 : vp_in (nI (i + 1)) q.1 := in256 (by omega) hq
  have i2 : vp_in (nI (i + 2)) q.1 := in256 (by omega) hq
  have i3 : vp_in (nI (i + 3)) q.1 := in256 (by omega) hq
  have c1 : (nI (i + 1)).toNatClampNeg = i + 1 := nic (by omega)
  have c2 : (nI (i + 2)).toNatClampNeg = i + 2 := nic (by omega)
  have c3 : (nI (i + 3)).toNatClampNeg = i + 3 := nic (by omega)
  have a1 : nI i + 1 = nI (i + 1) := nI_add i 1
  have a2 : nI i + 2 = nI (i + 2) := nI_add i 2
  have a3 : nI i + 3 = nI (i + 3) := nI_add i 3
  have a4 : nI i + 4 = nI (i + 4) := nI_add i 4
  simp only [eL_law_652, eL_law_653, eL_law_654, eL_law_655, eL_law_656, eL_law_657, eL_law_658, eL_law_659, eL_law_660, eL_law_661, eL_law_662, eL_law_663, fx0, fx1, fx2, fx3, fx4, nl_int, nl_ref, nl_none, nl_ti, rz_nil, rz_int, rz_ref, rz_long, cf1, cf2, Option.toList_some, Option.toList_none, List.cons_append, List.nil_append, i1, i2, i3, c1, c2, c3, a1, a2, a3, true_and]
  refine aC.mono (op_nodded (d := 0) hI _ _) (fun r σ1 h => ?_)
  obtain ⟨r2, σ2, hs, ⟨v, rfl, rfl⟩, hI2⟩ := h
  simp only [eL_law_666, eL_law_667, eL_law_668, eL_law_669, eL_law_670, eL_law_671, eL_law_672, eL_law_673, eL_law_674, eL_law_675, eL_law_676, eL_law_677, fx0, fx1, fx2, fx3, fx4, nl_int, nl_ref, nl_none, nl_ti, rz_nil, rz_int, rz_ref, rz_long, cf1, cf2, Option.toList_some, Option.toList_none, List.cons_append, List.nil_append, i1, i2, i3, c1, c2, c3, a1, a2, a3, true_and]
  refine aC.of hs ?_
  simp only [eL_law_680, eL_law_836, eL_law_839, fx0, fx1, fx2, fx3, fx4, nl_int, nl_ref, nl_none, nl_ti, rz_nil, rz_int, rz_ref, rz_long, cf1, cf2, Option.toList_some, Option.toList_none, List.cons_append, List.nil_append, if_true, a4]
  exact ih σ2 hI2
set_option maxHeartbeats 4000000 in
theorem law_askNext {q : Nat × (Nat → Int32)} (hq : q.1 ≤ 256) {i : Nat} (hi : i + 4 ≤ q.1) {σ : aW} (hI : Inv σ) (ih : ∀ σ', Inv σ' → lG l q (i + 4) σ') : aE l 30 (some q) 11 cL_law (some .boolean) lQ 685 [some (.ref 132), some (.ref 0), some (.ref 109), some (.int (nI i))] [] σ := by
  have i1 : vp_in (nI (i + 1)) q.1 := in256 (by omega) hq
  have i2 : vp_in (nI (i + 2)) q.1 := in256 (by omega) hq
  have i3 : vp_in (nI (i + 3)) q.1 := in256 (by omega) hq
  have c1 : (nI (i + 1)).toNatClampNeg = i + 1 := nic (by omega)
  have c2 : (nI (i + 2)).toNatClampNeg = i + 2 := nic (by omega)
  have c3 : (nI (i + 3)).toNatClampNeg = i + 3 := nic (by omega)
  have a1 : nI i + 1 = nI (i + 1) := nI_add i 1
  have a2 : nI i + 2 = nI (i + 2) := nI_add i 2
  have a3 : nI i + 3 = nI (i + 3) := nI_add i 3
  have a4 : nI i + 4 = nI (i + 4) := nI_add i 4
  simp only [eL_law_685, eL_law_686, eL_law_687, eL_law_688, eL_law_689, eL_law_690, eL_law_691, fx0, fx1, fx2, fx3, fx4, nl_int, nl_ref, nl_none, nl_ti, rz_nil, rz_int, rz_ref, rz_long, cf1, cf2, Option.toList_some, Option.toList_none, List.cons_append, List.nil_append, i1, i2, i3, c1, c2, c3, a1, a2, a3, true_and]
  refine aC.mono (op_askNext (d := 0) hI _) (fun r σ1 h => ?_)
  obtain ⟨r2, σ2, hs, ⟨v, rfl, rfl⟩, hI2⟩ := h
  simp only [eL_law_694, eL_law_695, eL_law_696, eL_law_697, eL_law_698, eL_law_699, eL_law_700, fx0, fx1, fx2, fx3, fx4, nl_int, nl_ref, nl_none, nl_ti, rz_nil, rz_int, rz_ref, rz_long, cf1, cf2, Option.toList_some, Option.toList_none, List.cons_append, List.nil_append, i1, i2, i3, c1, c2, c3, a1, a2, a3, true_and]
  refine aC.of hs ?_
  simp only [eL_law_703, eL_law_836, eL_law_839, fx0, fx1, fx2, fx3, fx4, nl_int, nl_ref, nl_none, nl_ti, rz_nil, rz_int, rz_ref, rz_long, cf1, cf2, Option.toList_some, Option.toList_none, List.cons_append, List.nil_append, if_true, a4]
  exact ih σ2 hI2
set_option maxHeartbeats 4000000 in
theorem law_write {q : Nat × (Nat → Int32)} (hq : q.1 ≤ 256) {i : Nat} (hi : i + 4 ≤ q.1) {σ : aW} (hI : Inv σ) (ih : ∀ σ', Inv σ' → lG l q (i + 4) σ') : aE l 30 (some q) 11 cL_law (some .boolean) lQ 708 [some (.ref 132), some (.ref 0), some (.ref 109), some (.int (nI i))] [] σ := by
  have i1 : vp_in (nI (i + 1)) q.1 := in256 (by omega) hq
  have i2 : vp_in (nI (i + 2)) q.1 := in256 (by omega) hq
  have i3 : vp_in (nI (i + 3)) q.1 := in256 (by omega) hq
  have c1 : (nI (i + 1)).toNatClampNeg = i + 1 := nic (by omega)
  have c2 : (nI (i + 2)).toNatClampNeg = i + 2 := nic (by omega)
  have c3 : (nI (i + 3)).toNatClampNeg = i + 3 := nic (by omega)
  have a1 : nI i + 1 = nI (i + 1) := nI_add i 1
  have a2 : nI i + 2 = nI (i + 2) := nI_add i 2
  have a3 : nI i + 3 = nI (i + 3) := nI_add i 3
  have a4 : nI i + 4 = nI (i + 4) := nI_add i 4
  simp only [eL_law_708, eL_law_709, eL_law_710, eL_law_711, eL_law_712, eL_law_713, eL_law_714, eL_law_715, eL_law_716, eL_law_717, eL_law_718, eL_law_719, fx0, fx1, fx2, fx3, fx4, nl_int, nl_ref, nl_none, nl_ti, rz_nil, rz_int, rz_ref, rz_long, cf1, cf2, Option.toList_some, Option.toList_none, List.cons_append, List.nil_append, i1, i2, i3, c1, c2, c3, a1, a2, a3, true_and]
  refine aC.mono (op_write (d := 0) hI _ _) (fun r σ1 h => ?_)
  obtain ⟨r2, σ2, hs, ⟨v, rfl, rfl⟩, hI2⟩ := h
  simp only [eL_law_722, eL_law_723, eL_law_724, eL_law_725, eL_law_726, eL_law_727, eL_law_728, eL_law_729, eL_law_730, eL_law_731, eL_law_732, eL_law_733, fx0, fx1, fx2, fx3, fx4, nl_int, nl_ref, nl_none, nl_ti, rz_nil, rz_int, rz_ref, rz_long, cf1, cf2, Option.toList_some, Option.toList_none, List.cons_append, List.nil_append, i1, i2, i3, c1, c2, c3, a1, a2, a3, true_and]
  refine aC.of hs ?_
  simp only [eL_law_736, eL_law_836, eL_law_839, fx0, fx1, fx2, fx3, fx4, nl_int, nl_ref, nl_none, nl_ti, rz_nil, rz_int, rz_ref, rz_long, cf1, cf2, Option.toList_some, Option.toList_none, List.cons_append, List.nil_append, if_true, a4]
  exact ih σ2 hI2
set_option maxHeartbeats 4000000 in
theorem law_tear {q : Nat × (Nat → Int32)} (hq : q.1 ≤ 256) {i : Nat} (hi : i + 4 ≤ q.1) {σ : aW} (hI : Inv σ) (ih : ∀ σ', Inv σ' → lG l q (i + 4) σ') : aE l 30 (some q) 11 cL_law (some .boolean) lQ 741 [some (.ref 132), some (.ref 0), some (.ref 109), some (.int (nI i))] [] σ := by
  have i1 : vp_in (nI (i + 1)) q.1 := in256 (by omega) hq
  have i2 : vp_in (nI (i + 2)) q.1 := in256 (by omega) hq
  have i3 : vp_in (nI (i + 3)) q.1 := in256 (by omega) hq
  have c1 : (nI (i + 1)).toNatClampNeg = i + 1 := nic (by omega)
  have c2 : (nI (i + 2)).toNatClampNeg = i + 2 := nic (by omega)
  have c3 : (nI (i + 3)).toNatClampNeg = i + 3 := nic (by omega)
  have a1 : nI i + 1 = nI (i + 1) := nI_add i 1
  have a2 : nI i + 2 = nI (i + 2) := nI_add i 2
  have a3 : nI i + 3 = nI (i + 3) := nI_add i 3
  have a4 : nI i + 4 = nI (i + 4) := nI_add i 4
  simp only [eL_law_741, eL_law_742, fx0, fx1, fx2, fx3, fx4, nl_int, nl_ref, nl_none, nl_ti, rz_nil, rz_int, rz_ref, rz_long, cf1, cf2, Option.toList_some, Option.toList_none, List.cons_append, List.nil_append, i1, i2, i3, c1, c2, c3, a1, a2, a3, true_and]
  refine aC.mono (op_tear (d := 0) hI) (fun r σ1 h => ?_)
  obtain ⟨r2, σ2, hs, ⟨v, rfl, rfl⟩, hI2⟩ := h
  simp only [eL_law_745, eL_law_746, fx0, fx1, fx2, fx3, fx4, nl_int, nl_ref, nl_none, nl_ti, rz_nil, rz_int, rz_ref, rz_long, cf1, cf2, Option.toList_some, Option.toList_none, List.cons_append, List.nil_append, i1, i2, i3, c1, c2, c3, a1, a2, a3, true_and]
  refine aC.of hs ?_
  simp only [eL_law_749, eL_law_836, eL_law_839, fx0, fx1, fx2, fx3, fx4, nl_int, nl_ref, nl_none, nl_ti, rz_nil, rz_int, rz_ref, rz_long, cf1, cf2, Option.toList_some, Option.toList_none, List.cons_append, List.nil_append, if_true, a4]
  exact ih σ2 hI2
set_option maxHeartbeats 4000000 in
theorem law_judge {q : Nat × (Nat → Int32)} (hq : q.1 ≤ 256) {i : Nat} (hi : i + 4 ≤ q.1) {σ : aW} (hI : Inv σ) (ih : ∀ σ', Inv σ' → lG l q (i + 4) σ') : aE l 30 (some q) 11 cL_law (some .boolean) lQ 754 [some (.ref 132), some (.ref 0), some (.ref 109), some (.int (nI i))] [] σ := by
  have i1 : vp_in (nI (i + 1)) q.1 := in256 (by omega) hq
  have i2 : vp_in (nI (i + 2)) q.1 := in256 (by omega) hq
  have i3 : vp_in (nI (i + 3)) q.1 := in256 (by omega) hq
  have c1 : (nI (i + 1)).toNatClampNeg = i + 1 := nic (by omega)
  have c2 : (nI (i + 2)).toNatClampNeg = i + 2 := nic (by omega)
  have c3 : (nI (i + 3)).toNatClampNeg = i + 3 := nic (by omega)
  have a1 : nI i + 1 = nI (i + 1) := nI_add i 1
  have a2 : nI i + 2 = nI (i + 2) := nI_add i 2
  have a3 : nI i + 3 = nI (i + 3) := nI_add i 3
  have a4 : nI i + 4 = nI (i + 4) := nI_add i 4
  simp only [eL_law_754, eL_law_755, fx0, fx1, fx2, fx3, fx4, nl_int, nl_ref, nl_none, nl_ti, rz_nil, rz_int, rz_ref, rz_long, cf1, cf2, Option.toList_some, Option.toList_none, List.cons_append, List.nil_append, i1, i2, i3, c1, c2, c3, a1, a2, a3, true_and]
  refine aC.mono (op_judge (d := 0) hI) (fun r σ1 h => ?_)
  obtain ⟨r2, σ2, hs, ⟨v, rfl, rfl⟩, hI2⟩ := h
  simp only [eL_law_758, eL_law_759, fx0, fx1, fx2, fx3, fx4, nl_int, nl_ref, nl_none, nl_ti, rz_nil, rz_int, rz_ref, rz_long, cf1, cf2, Option.toList_some, Option.toList_none, List.cons_append, List.nil_append, i1, i2, i3, c1, c2, c3, a1, a2, a3, true_and]
  refine aC.of hs ?_
  simp only [eL_law_762, eL_law_836, eL_law_839, fx0, fx1, fx2, fx3, fx4, nl_int, nl_ref, nl_none, nl_ti, rz_nil, rz_int, rz_ref, rz_long, cf1, cf2, Option.toList_some, Option.toList_none, List.cons_append, List.nil_append, if_true, a4]
  exact ih σ2 hI2
set_option maxHeartbeats 4000000 in
theorem law_seed {q : Nat × (Nat → Int32)} (hq : q.1 ≤ 256) {i : Nat} (hi : i + 4 ≤ q.1) {σ : aW} (hI : Inv σ) (ih : ∀ σ', Inv σ' → lG l q (i + 4) σ') : aE l 30 (some q) 11 cL_law (some .boolean) lQ 767 [some (.ref 132), some (.ref 0), some (.ref 109), some (.int (nI i))] [] σ := by
  have i1 : vp_in (nI (i + 1)) q.1 := in256 (by omega) hq
  have i2 : vp_in (nI (i + 2)) q.1 := in256 (by omega) hq
  have i3 : vp_in (nI (i + 3)) q.1 := in256 (by omega) hq
  have c1 : (nI (i + 1)).toNatClampNeg = i + 1 := nic (by omega)
  have c2 : (nI (i + 2)).toNatClampNeg = i + 2 := nic (by omega)
  have c3 : (nI (i + 3)).toNatClampNeg = i + 3 := nic (by omega)
  have a1 : nI i + 1 = nI (i + 1) := nI_add i 1
  have a2 : nI i + 2 = nI (i + 2) := nI_add i 2
  have a3 : nI i + 3 = nI (i + 3) := nI_add i 3
  have a4 : nI i + 4 = nI (i + 4) := nI_add i 4
  simp only [eL_law_767, eL_law_768, eL_law_769, eL_law_770, eL_law_771, eL_law_772, eL_law_773, fx0, fx1, fx2, fx3, fx4, nl_int, nl_ref, nl_none, nl_ti, rz_nil, rz_int, rz_ref, rz_long, cf1, cf2, Option.toList_some, Option.toList_none, List.cons_append, List.nil_append, i1, i2, i3, c1, c2, c3, a1, a2, a3, true_and]
  refine aC.mono (op_seed (d := 0) hI _) (fun r σ1 h => ?_)
  obtain ⟨r2, σ2, hs, ⟨v, rfl, rfl⟩, hI2⟩ := h
  simp only [eL_law_776, eL_law_777, eL_law_778, eL_law_779, eL_law_780, eL_law_781, eL_law_782, fx0, fx1, fx2, fx3, fx4, nl_int, nl_ref, nl_none, nl_ti, rz_nil, rz_int, rz_ref, rz_long, cf1, cf2, Option.toList_some, Option.toList_none, List.cons_append, List.nil_append, i1, i2, i3, c1, c2, c3, a1, a2, a3, true_and]
  refine aC.of hs ?_
  simp only [eL_law_785, eL_law_836, eL_law_839, fx0, fx1, fx2, fx3, fx4, nl_int, nl_ref, nl_none, nl_ti, rz_nil, rz_int, rz_ref, rz_long, cf1, cf2, Option.toList_some, Option.toList_none, List.cons_append, List.nil_append, if_true, a4]
  exact ih σ2 hI2
set_option maxHeartbeats 4000000 in
theorem law_keep {q : Nat × (Nat → Int32)} (hq : q.1 ≤ 256) {i : Nat} (hi : i + 4 ≤ q.1) {σ : aW} (hI : Inv σ) (ih : ∀ σ', Inv σ' → lG l q (i + 4) σ') : aE l 30 (some q) 11 cL_law (some .boolean) lQ 790 [some (.ref 132), some (.ref 0), some (.ref 109), some (.int (nI i))] [] σ := by
  have i1 : vp_in (nI (i + 1)) q.1 := in256 (by omega) hq
  have i2 : vp_in (nI (i + 2)) q.1 := in256 (by omega) hq
  have i3 : vp_in (nI (i + 3)) q.1 := in256 (by omega) hq
  have c1 : (nI (i + 1)).toNatClampNeg = i + 1 := nic (by omega)
  have c2 : (nI (i + 2)).toNatClampNeg = i + 2 := nic (by omega)
  have c3 : (nI (i + 3)).toNatClampNeg = i + 3 := nic (by omega)
  have a1 : nI i + 1 = nI (i + 1) := nI_add i 1
  have a2 : nI i + 2 = nI (i + 2) := nI_add i 2
  have a3 : nI i + 3 = nI (i + 3) := nI_add i 3
  have a4 : nI i + 4 = nI (i + 4) := nI_add i 4
  simp only [eL_law_790, eL_law_791, eL_law_792, eL_law_793, eL_law_794, eL_law_795, eL_law_796, fx0, fx1, fx2, fx3, fx4, nl_int, nl_ref, nl_none, nl_ti, rz_nil, rz_int, rz_ref, rz_long, cf1, cf2, Option.toList_some, Option.toList_none, List.cons_append, List.nil_append, i1, i2, i3, c1, c2, c3, a1, a2, a3, true_and]
  refine aC.mono (op_keep (d := 0) hI _) (fun r σ1 h => ?_)
  obtain ⟨r2, σ2, hs, ⟨v, rfl, rfl⟩, hI2⟩ := h
  simp only [eL_law_799, eL_law_800, eL_law_801, eL_law_802, eL_law_803, eL_law_804, eL_law_805, fx0, fx1, fx2, fx3, fx4, nl_int, nl_ref, nl_none, nl_ti, rz_nil, rz_int, rz_ref, rz_long, cf1, cf2, Option.toList_some, Option.toList_none, List.cons_append, List.nil_append, i1, i2, i3, c1, c2, c3, a1, a2, a3, true_and]
  refine aC.of hs ?_
  simp only [eL_law_808, eL_law_836, eL_law_839, fx0, fx1, fx2, fx3, fx4, nl_int, nl_ref, nl_none, nl_ti, rz_nil, rz_int, rz_ref, rz_long, cf1, cf2, Option.toList_some, Option.toList_none, List.cons_append, List.nil_append, if_true, a4]
  exact ih σ2 hI2
set_option maxHeartbeats 4000000 in
theorem law_goBack {q : Nat × (Nat → Int32)} (hq : q.1 ≤ 256) {i : Nat} (hi : i + 4 ≤ q.1) {σ : aW} (hI : Inv σ) (ih : ∀ σ', Inv σ' → lG l q (i + 4) σ') : aE l 30 (some q) 11 cL_law (some .boolean) lQ 813 [some (.ref 132), some (.ref 0), some (.ref 109), some (.int (nI i))] [] σ := by
  have i1 : vp_in (nI (i + 1)) q.1 := in256 (by omega) hq
  have i2 : vp_in (nI (i + 2)) q.1 := in256 (by omega) hq
  have i3 : vp_in (nI (i + 3)) q.1 := in256 (by omega) hq
  have c1 : (nI (i + 1)).toNatClampNeg = i + 1 := nic (by omega)
  have c2 : (nI (i + 2)).toNatClampNeg = i + 2 := nic (by omega)
  have c3 : (nI (i + 3)).toNatClampNeg = i + 3 := nic (by omega)
  have a1 : nI i + 1 = nI (i + 1) := nI_add i 1
  have a2 : nI i + 2 = nI (i + 2) := nI_add i 2
  have a3 : nI i + 3 = nI (i + 3) := nI_add i 3
  have a4 : nI i + 4 = nI (i + 4) := nI_add i 4
  simp only [eL_law_813, eL_law_814, eL_law_815, eL_law_816, eL_law_817, eL_law_818, eL_law_819, fx0, fx1, fx2, fx3, fx4, nl_int, nl_ref, nl_none, nl_ti, rz_nil, rz_int, rz_ref, rz_long, cf1, cf2, Option.toList_some, Option.toList_none, List.cons_append, List.nil_append, i1, i2, i3, c1, c2, c3, a1, a2, a3, true_and]
  refine aC.mono (op_goBack (d := 0) hI _) (fun r σ1 h => ?_)
  obtain ⟨r2, σ2, hs, ⟨v, rfl, rfl⟩, hI2⟩ := h
  simp only [eL_law_822, eL_law_823, eL_law_824, eL_law_825, eL_law_826, eL_law_827, eL_law_828, fx0, fx1, fx2, fx3, fx4, nl_int, nl_ref, nl_none, nl_ti, rz_nil, rz_int, rz_ref, rz_long, cf1, cf2, Option.toList_some, Option.toList_none, List.cons_append, List.nil_append, i1, i2, i3, c1, c2, c3, a1, a2, a3, true_and]
  refine aC.of hs ?_
  simp only [eL_law_831, eL_law_836, eL_law_839, fx0, fx1, fx2, fx3, fx4, nl_int, nl_ref, nl_none, nl_ti, rz_nil, rz_int, rz_ref, rz_long, cf1, cf2, Option.toList_some, Option.toList_none, List.cons_append, List.nil_append, if_true, a4]
  exact ih σ2 hI2
set_option maxHeartbeats 4000000 in
theorem law_run {q : Nat × (Nat → Int32)} (hq : q.1 ≤ 256) : ∀ n i (σ : aW), q.1 ≤ i + n → i ≤ q.1 + 4 → Inv σ → lG l q i σ := by
  have stop : ∀ i (σ : aW), q.1 < i + 4 → i ≤ q.1 + 4 → lG l q i σ := by
    intro i σ h hi
    have hc : Int32.ofNat q.1 - 4 < nI i := by
      show nI q.1 - 4 < nI i
      rcases Nat.lt_or_ge q.1 4 with h4 | h4
      · have hneg : nI q.1 - 4 < 0 := by
          rcases (show q.1 = 0 ∨ q.1 = 1 ∨ q.1 = 2 ∨ q.1 = 3 by omega) with e | e | e | e <;> rw [e] <;> decide
        have hp : ¬ nI i < 0 := nI_pos (by omega)
        rw [Int32.lt_iff_toInt_lt] at hneg hp ⊢
        omega
      · rw [show (4 : Int32) = nI 4 from rfl, nI_sb h4, nilt (by omega) (by omega)]
        omega
    show aE l 30 (some q) 11 cL_law (some .boolean) lQ 18 _ _ σ
    rw [eL_law_18]
    simp only [eL_law_19, eL_law_20, eL_law_21, eL_law_22, eL_law_23, eL_law_842, eL_law_843, fx0, fx1, fx2, fx3, fx4, nl_int, nl_ref, nl_none, nl_ti, rz_nil, rz_int, rz_ref, rz_long, cf1, cf2, Option.toList_some, Option.toList_none, List.cons_append, List.nil_append, hc, if_true, true_or, or_true, true_and, and_true, and_self]
    try decide
  intro n
  induction n with
  | zero => exact fun i σ h hi _ => stop i σ (by omega) hi
  | succ n ih =>
    intro i σ h hi hI
    by_cases h4 : q.1 < i + 4
    · exact stop i σ h4 hi
    · have hc : ¬ Int32.ofNat q.1 - 4 < nI i := by
        show ¬ nI q.1 - 4 < nI i
        rw [show (4 : Int32) = nI 4 from rfl, nI_sb (by omega), nilt (by omega) (by omega)]
        omega
      have hi4 : i + 4 ≤ q.1 := by omega
      have i0 : vp_in (nI i) q.1 := in256 (by omega) hq
      have c0 : (nI i).toNatClampNeg = i := nic (by omega)
      have ih4 : ∀ σ', Inv σ' → lG l q (i + 4) σ' := fun σ' hI' => ih (i + 4) σ' (by omega) (by omega) hI'
      obtain ⟨c, hc1, hc2⟩ := pk_andE (q.2 i) (m := 31) 5 (by decide)
      show aE l 30 (some q) 11 cL_law (some .boolean) lQ 18 _ _ σ
      rw [eL_law_18]
      simp only [eL_law_19, eL_law_20, eL_law_21, eL_law_22, eL_law_23, eL_law_26, eL_law_27, eL_law_28, eL_law_29, eL_law_31, fx0, fx1, fx2, fx3, fx4, nl_int, nl_ref, nl_none, nl_ti, rz_nil, rz_int, rz_ref, rz_long, cf1, cf2, Option.toList_some, Option.toList_none, List.cons_append, List.nil_append, hc, if_false, i0, c0, true_and, hc2]
      by_cases h28 : c < 28
      · rcases (show c = 0 ∨ c = 1 ∨ c = 2 ∨ c = 3 ∨ c = 4 ∨ c = 5 ∨ c = 6 ∨ c = 7 ∨ c = 8 ∨ c = 9 ∨ c = 10 ∨ c = 11 ∨ c = 12 ∨ c = 13 ∨ c = 14 ∨ c = 15 ∨ c = 16 ∨ c = 17 ∨ c = 18 ∨ c = 19 ∨ c = 20 ∨ c = 21 ∨ c = 22 ∨ c = 23 ∨ c = 24 ∨ c = 25 ∨ c = 26 ∨ c = 27 by omega) with rfl | rfl | rfl | rfl | rfl | rfl | rfl | rfl | rfl | rfl | rfl | rfl | rfl | rfl | rfl | rfl | rfl | rfl | rfl | rfl | rfl | rfl | rfl | rfl | rfl | rfl | rfl | rfl
        · rw [show nI 0 = 0 from rfl, eL_law_32_0]
          exact law_feed hq hi4 hI ih4
        · rw [show nI 1 = 1 from rfl, eL_law_32_1]
          exact law_contract hq hi4 hI ih4
        · rw [show nI 2 = 2 from rfl, eL_law_32_2]
          exact law_fault hq hi4 hI ih4
        · rw [show nI 3 = 3 from rfl, eL_law_32_3]
          exact law_told hq hi4 hI ih4
        · rw [show nI 4 = 4 from rfl, eL_law_32_4]
          exact law_watcher hq hi4 hI ih4
        · rw [show nI 5 = 5 from rfl, eL_law_32_5]
          exact law_sleeper hq hi4 hI ih4
        · rw [show nI 6 = 6 from rfl, eL_law_32_6]
          exact law_hour hq hi4 hI ih4
        · rw [show nI 7 = 7 from rfl, eL_law_32_7]
          exact law_coffee hq hi4 hI ih4
        · rw [show nI 8 = 8 from rfl, eL_law_32_8]
          exact law_rest hq hi4 hI ih4
        · rw [show nI 9 = 9 from rfl, eL_law_32_9]
          exact law_drift hq hi4 hI ih4
        · rw [show nI 10 = 10 from rfl, eL_law_32_10]
          exact law_undo hq hi4 hI ih4
        · rw [show nI 11 = 11 from rfl, eL_law_32_11]
          exact law_watches hq hi4 hI ih4
        · rw [show nI 12 = 12 from rfl, eL_law_32_12]
          exact law_bellHour hq hi4 hI ih4
        · rw [show nI 13 = 13 from rfl, eL_law_32_13]
          exact law_coffeeFor hq hi4 hI ih4
        · rw [show nI 14 = 14 from rfl, eL_law_32_14]
          exact law_nights hq hi4 hI ih4
        · rw [show nI 15 = 15 from rfl, eL_law_32_15]
          exact law_hold hq hi4 hI ih4
        · rw [show nI 16 = 16 from rfl, eL_law_32_16]
          exact law_share hq hi4 hI ih4
        · rw [show nI 17 = 17 from rfl, eL_law_32_17]
          exact law_paid hq hi4 hI ih4
        · rw [show nI 18 = 18 from rfl, eL_law_32_18]
          exact law_blink hq hi4 hI ih4
        · rw [show nI 19 = 19 from rfl, eL_law_32_19]
          exact law_see hq hi4 hI ih4
        · rw [show nI 20 = 20 from rfl, eL_law_32_20]
          exact law_nodded hq hi4 hI ih4
        · rw [show nI 21 = 21 from rfl, eL_law_32_21]
          exact law_askNext hq hi4 hI ih4
        · rw [show nI 22 = 22 from rfl, eL_law_32_22]
          exact law_write hq hi4 hI ih4
        · rw [show nI 23 = 23 from rfl, eL_law_32_23]
          exact law_tear hq hi4 hI ih4
        · rw [show nI 24 = 24 from rfl, eL_law_32_24]
          exact law_judge hq hi4 hI ih4
        · rw [show nI 25 = 25 from rfl, eL_law_32_25]
          exact law_seed hq hi4 hI ih4
        · rw [show nI 26 = 26 from rfl, eL_law_32_26]
          exact law_keep hq hi4 hI ih4
        · rw [show nI 27 = 27 from rfl, eL_law_32_27]
          exact law_goBack hq hi4 hI ih4
      · rw [eL_law_32_d (Or.inr (by rw [nI_toInt (by omega)]; omega))]
        simp only [eL_law_836, eL_law_839, fx0, fx1, fx2, fx3, fx4, nl_int, nl_ref, nl_none, nl_ti, rz_nil, rz_int, rz_ref, rz_long, cf1, cf2, Option.toList_some, Option.toList_none, List.cons_append, List.nil_append, show nI i + 4 = nI (i + 4) from nI_add i 4]
        exact ih4 σ hI
end LAW
