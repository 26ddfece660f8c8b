/-! the calls, both sides: those that only read, or write little -/
def Pair (l : Launch) (D jc jm : Nat) (as : List Value) (σ : aW) : Prop := aC l D jc (.ref 0 :: as) σ (fun r σ1 => aC l D jm (.ref 109 :: as) σ1 (fun r2 σ2 => (∃ v : Int32, r = some (.int v) ∧ r2 = some (.int v)) ∧ Inv σ2))
theorem sw_out {x : Int32} {n : Nat} (hn : n < 1000) : (∃ k, k ≤ n ∧ x = nI k) ∨ (x.toInt < 0 ∨ (n : Int) < x.toInt) := by
  by_cases h : x < 0
  · exact Or.inr (Or.inl (by simpa using Int32.lt_iff_toInt_lt.mp h))
  · obtain ⟨j, hj, rfl⟩ := nI_of h
    rw [nI_toInt hj]
    by_cases h2 : j ≤ n
    · exact Or.inl ⟨j, h2, rfl⟩
    · exact Or.inr (Or.inr (by omega))
section O2
variable {l : Launch} {d : Nat} {σ : aW}
theorem op_fault (hI : Inv σ) : Pair l (d + 30) 63 110 [] σ := by
  have hI0 := hI
  obtain ⟨h, w, s, hK, ⟨hS, hR⟩, hH, hIm, hD, hE, hB, hT⟩ := hI
  refine aC_of rfl (Nat.le_of_ble_eq_true rfl) ?_
  show aE l (d + 29) none 9 cX9_fault (some .int) _ 0 [some (.ref 0)] [] σ
  simp only [eX9_fault_0, eX9_fault_1, eX9_fault_4, eX9_fault_7, fx0, fx1, fx2, fx3, fx4, nl_int, nl_ref, nl_none, nl_ti, rz_nil, rz_int, rz_ref, rz_long, cf1, cf2, Option.toList_some, Option.toList_none, List.cons_append, List.nil_append]
  refine aC_of rfl (Nat.le_of_ble_eq_true rfl) ?_
  show aE l (d + 29) none 10 cX10_fault (some .int) _ 0 [some (.ref 109)] [] σ
  simp only [eX10_fault_0, eX10_fault_1, eX10_fault_4, fx0, fx1, fx2, fx3, fx4, nl_int, nl_ref, nl_none, nl_ti, rz_nil, rz_int, rz_ref, rz_long, cf1, cf2, Option.toList_some, Option.toList_none, List.cons_append, List.nil_append]
  exact ⟨⟨_, rfl, by rw [hT.1]⟩, hI0⟩
theorem op_told (hI : Inv σ) (x : Int32) : Pair l (d + 30) 64 111 [.int x] σ := by
  have hI0 := hI
  obtain ⟨h, w, s, hK, ⟨hS, hR⟩, ⟨n, hn, hH, -⟩, hIm, hD, ⟨n2, -, e1, e2, -⟩, ⟨n3, -, b1, b2, -⟩, ⟨-, n4, -, t1, t2, -⟩⟩ := hI
  obtain ⟨⟨k1, k2, -⟩, ⟨k3, k4, -⟩, ⟨-, k5, k6, -⟩, ⟨k7, k8, k9, -⟩, -⟩ := hK
  have s0 := hS.2.2 0 (by decide)
  have s1 := hS.2.2 1 (by decide)
  have s2 := hS.2.2 2 (by decide)
  have s3 := hS.2.2 3 (by decide)
  have s4 := hS.2.2 4 (by decide)
  have s5 := hS.2.2 5 (by decide)
  have s6 := hS.2.2 6 (by decide)
  refine aC_of rfl (Nat.le_of_ble_eq_true rfl) ?_
  show aE l (d + 29) none 9 cX9_told (some .int) _ 0 [some (.ref 0), some (.int x)] [] σ
  rw [eX9_told_0]
  have hm : ∀ (P : Option Value → aW → Prop), aE l (d + 29) none 10 cX10_told (some .int) P 1 [some (.ref 109), some (.int x)] [.int x] σ → aC l (d + 30) 111 [.ref 109, .int x] σ P := by
    intro P hP
    refine aC_of rfl (Nat.le_of_ble_eq_true rfl) ?_
    show aE l (d + 29) none 10 cX10_told (some .int) _ 0 [some (.ref 109), some (.int x)] [] σ
    rw [eX10_told_0]
    exact hP
  rcases sw_out (x := x) (n := 16) (by decide) with ⟨k, hk, rfl⟩ | hx
  · rcases (show k = 0 ∨ k = 1 ∨ k = 2 ∨ k = 3 ∨ k = 4 ∨ k = 5 ∨ k = 6 ∨ k = 7 ∨ k = 8 ∨ k = 9 ∨ k = 10 ∨ k = 11 ∨ k = 12 ∨ k = 13 ∨ k = 14 ∨ k = 15 ∨ k = 16 by omega) with rfl | rfl | rfl | rfl | rfl | rfl | rfl | rfl | rfl | rfl | rfl | rfl | rfl | rfl | rfl | rfl | rfl
    · rw [show nI 0 = 0 from rfl, eX9_told_1_0]
      simp only [eX9_told_84, eX9_told_85, eX9_told_88, eX9_told_91, fx0, fx1, fx2, fx3, fx4, nl_int, nl_ref, nl_none, nl_ti, rz_nil, rz_int, rz_ref, rz_long, cf1, cf2, Option.toList_some, Option.toList_none, List.cons_append, List.nil_append]
      refine hm _ ?_
      rw [show nI 0 = 0 from rfl, eX10_told_1_0]
      simp only [eX10_told_84, eX10_told_85, eX10_told_88, fx0, fx1, fx2, fx3, fx4, nl_int, nl_ref, nl_none, nl_ti, rz_nil, rz_int, rz_ref, rz_long, cf1, cf2, Option.toList_some, Option.toList_none, List.cons_append, List.nil_append, vi19, true_and]
      exact ⟨⟨_, rfl, by rw [k5, k6]⟩, hI0⟩
    · rw [show nI 1 = 1 from rfl, eX9_told_1_1]
      simp only [eX9_told_92, eX9_told_93, eX9_told_96, eX9_told_99, fx0, fx1, fx2, fx3, fx4, nl_int, nl_ref, nl_none, nl_ti, rz_nil, rz_int, rz_ref, rz_long, cf1, cf2, Option.toList_some, Option.toList_none, List.cons_append, List.nil_append]
      refine hm _ ?_
      rw [show nI 1 = 1 from rfl, eX10_told_1_1]
      simp only [eX10_told_89, eX10_told_90, eX10_told_93, fx0, fx1, fx2, fx3, fx4, nl_int, nl_ref, nl_none, nl_ti, rz_nil, rz_int, rz_ref, rz_long, cf1, cf2, Option.toList_some, Option.toList_none, List.cons_append, List.nil_append, vi19, true_and]
      exact ⟨⟨_, rfl, by rw [k7]⟩, hI0⟩
    · rw [show nI 2 = 2 from rfl, eX9_told_1_2]
      simp only [eX9_told_100, eX9_told_101, eX9_told_104, eX9_told_107, fx0, fx1, fx2, fx3, fx4, nl_int, nl_ref, nl_none, nl_ti, rz_nil, rz_int, rz_ref, rz_long, cf1, cf2, Option.toList_some, Option.toList_none, List.cons_append, List.nil_append]
      refine hm _ ?_
      rw [show nI 2 = 2 from rfl, eX10_told_1_2]
      simp only [eX10_told_94, eX10_told_95, eX10_told_98, fx0, fx1, fx2, fx3, fx4, nl_int, nl_ref, nl_none, nl_ti, rz_nil, rz_int, rz_ref, rz_long, cf1, cf2, Option.toList_some, Option.toList_none, List.cons_append, List.nil_append, vi19, true_and]
      exact ⟨⟨_, rfl, by rw [k8]⟩, hI0⟩
    · rw [show nI 3 = 3 from rfl, eX9_told_1_3]
      simp only [eX9_told_108, eX9_told_109, eX9_told_112, eX9_told_115, fx0, fx1, fx2, fx3, fx4, nl_int, nl_ref, nl_none, nl_ti, rz_nil, rz_int, rz_ref, rz_long, cf1, cf2, Option.toList_some, Option.toList_none, List.cons_append, List.nil_append]
      refine hm _ ?_
      rw [show nI 3 = 3 from rfl, eX10_told_1_3]
      simp only [eX10_told_99, eX10_told_100, eX10_told_103, fx0, fx1, fx2, fx3, fx4, nl_int, nl_ref, nl_none, nl_ti, rz_nil, rz_int, rz_ref, rz_long, cf1, cf2, Option.toList_some, Option.toList_none, List.cons_append, List.nil_append, vi19, true_and]
      exact ⟨⟨_, rfl, by rw [k9]⟩, hI0⟩
    · rw [show nI 4 = 4 from rfl, eX9_told_1_4]
      simp only [eX9_told_116, eX9_told_117, eX9_told_120, eX9_told_123, fx0, fx1, fx2, fx3, fx4, nl_int, nl_ref, nl_none, nl_ti, rz_nil, rz_int, rz_ref, rz_long, cf1, cf2, Option.toList_some, Option.toList_none, List.cons_append, List.nil_append]
      refine hm _ ?_
      rw [show nI 4 = 4 from rfl, eX10_told_1_4]
      simp only [eX10_told_104, eX10_told_105, eX10_told_108, fx0, fx1, fx2, fx3, fx4, nl_int, nl_ref, nl_none, nl_ti, rz_nil, rz_int, rz_ref, rz_long, cf1, cf2, Option.toList_some, Option.toList_none, List.cons_append, List.nil_append, vi19, true_and]
      exact ⟨⟨_, rfl, by rw [k1, k2]⟩, hI0⟩
    · rw [show nI 5 = 5 from rfl, eX9_told_1_5]
      simp only [eX9_told_124, eX9_told_125, eX9_told_128, eX9_told_131, fx0, fx1, fx2, fx3, fx4, nl_int, nl_ref, nl_none, nl_ti, rz_nil, rz_int, rz_ref, rz_long, cf1, cf2, Option.toList_some, Option.toList_none, List.cons_append, List.nil_append]
      refine hm _ ?_
      rw [show nI 5 = 5 from rfl, eX10_told_1_5]
      simp only [eX10_told_109, eX10_told_110, eX10_told_113, fx0, fx1, fx2, fx3, fx4, nl_int, nl_ref, nl_none, nl_ti, rz_nil, rz_int, rz_ref, rz_long, cf1, cf2, Option.toList_some, Option.toList_none, List.cons_append, List.nil_append, vi19, true_and]
      exact ⟨⟨_, rfl, by rw [k3, k4]⟩, hI0⟩
    · rw [show nI 6 = 6 from rfl, eX9_told_1_6]
      simp only [eX9_told_132, eX9_told_133, eX9_told_136, eX9_told_139, fx0, fx1, fx2, fx3, fx4, nl_int, nl_ref, nl_none, nl_ti, rz_nil, rz_int, rz_ref, rz_long, cf1, cf2, Option.toList_some, Option.toList_none, List.cons_append, List.nil_append]
      refine hm _ ?_
      rw [show nI 6 = 6 from rfl, eX10_told_1_6]
      simp only [eX10_told_114, eX10_told_115, eX10_told_118, fx0, fx1, fx2, fx3, fx4, nl_int, nl_ref, nl_none, nl_ti, rz_nil, rz_int, rz_ref, rz_long, cf1, cf2, Option.toList_some, Option.toList_none, List.cons_append, List.nil_append, vi19, true_and]
      exact ⟨⟨_, rfl, by rw [t1, t2]⟩, hI0⟩
    · rw [show nI 7 = 7 from rfl, eX9_told_1_7]
      simp only [eX9_told_140, eX9_told_141, eX9_told_144, eX9_told_147, fx0, fx1, fx2, fx3, fx4, nl_int, nl_ref, nl_none, nl_ti, rz_nil, rz_int, rz_ref, rz_long, cf1, cf2, Option.toList_some, Option.toList_none, List.cons_append, List.nil_append]
      refine hm _ ?_
      rw [show nI 7 = 7 from rfl, eX10_told_1_7]
      simp only [eX10_told_119, eX10_told_120, eX10_told_123, eX10_told_125, eX10_told_126, fx0, fx1, fx2, fx3, fx4, nl_int, nl_ref, nl_none, nl_ti, rz_nil, rz_int, rz_ref, rz_long, cf1, cf2, Option.toList_some, Option.toList_none, List.cons_append, List.nil_append, vi19, true_and]
      exact ⟨⟨_, rfl, by rw [s0]⟩, hI0⟩
    · rw [show nI 8 = 8 from rfl, eX9_told_1_8]
      simp only [eX9_told_148, eX9_told_149, eX9_told_152, eX9_told_155, fx0, fx1, fx2, fx3, fx4, nl_int, nl_ref, nl_none, nl_ti, rz_nil, rz_int, rz_ref, rz_long, cf1, cf2, Option.toList_some, Option.toList_none, List.cons_append, List.nil_append]
      refine hm _ ?_
      rw [show nI 8 = 8 from rfl, eX10_told_1_8]
      simp only [eX10_told_127, eX10_told_128, eX10_told_131, eX10_told_133, eX10_told_134, fx0, fx1, fx2, fx3, fx4, nl_int, nl_ref, nl_none, nl_ti, rz_nil, rz_int, rz_ref, rz_long, cf1, cf2, Option.toList_some, Option.toList_none, List.cons_append, List.nil_append, vi19, true_and]
      exact ⟨⟨_, rfl, by rw [s1]⟩, hI0⟩
    · rw [show nI 9 = 9 from rfl, eX9_told_1_9]
      simp only [eX9_told_156, eX9_told_157, eX9_told_160, eX9_told_163, fx0, fx1, fx2, fx3, fx4, nl_int, nl_ref, nl_none, nl_ti, rz_nil, rz_int, rz_ref, rz_long, cf1, cf2, Option.toList_some, Option.toList_none, List.cons_append, List.nil_append]
      refine hm _ ?_
      rw [show nI 9 = 9 from rfl, eX10_told_1_9]
      simp only [eX10_told_135, eX10_told_136, eX10_told_139, eX10_told_141, eX10_told_142, fx0, fx1, fx2, fx3, fx4, nl_int, nl_ref, nl_none, nl_ti, rz_nil, rz_int, rz_ref, rz_long, cf1, cf2, Option.toList_some, Option.toList_none, List.cons_append, List.nil_append, vi19, true_and]
      exact ⟨⟨_, rfl, by rw [s2]⟩, hI0⟩
    · rw [show nI 10 = 10 from rfl, eX9_told_1_10]
      simp only [eX9_told_164, eX9_told_165, eX9_told_168, eX9_told_171, fx0, fx1, fx2, fx3, fx4, nl_int, nl_ref, nl_none, nl_ti, rz_nil, rz_int, rz_ref, rz_long, cf1, cf2, Option.toList_some, Option.toList_none, List.cons_append, List.nil_append]
      refine hm _ ?_
      rw [show nI 10 = 10 from rfl, eX10_told_1_10]
      simp only [eX10_told_143, eX10_told_144, eX10_told_147, eX10_told_149, eX10_told_150, fx0, fx1, fx2, fx3, fx4, nl_int, nl_ref, nl_none, nl_ti, rz_nil, rz_int, rz_ref, rz_long, cf1, cf2, Option.toList_some, Option.toList_none, List.cons_append, List.nil_append, vi19, true_and]
      exact ⟨⟨_, rfl, by rw [s3]⟩, hI0⟩
    · rw [show nI 11 = 11 from rfl, eX9_told_1_11]
      simp only [eX9_told_172, eX9_told_173, eX9_told_176, eX9_told_179, fx0, fx1, fx2, fx3, fx4, nl_int, nl_ref, nl_none, nl_ti, rz_nil, rz_int, rz_ref, rz_long, cf1, cf2, Option.toList_some, Option.toList_none, List.cons_append, List.nil_append]
      refine hm _ ?_
      rw [show nI 11 = 11 from rfl, eX10_told_1_11]
      simp only [eX10_told_151, eX10_told_152, eX10_told_155, eX10_told_157, eX10_told_158, fx0, fx1, fx2, fx3, fx4, nl_int, nl_ref, nl_none, nl_ti, rz_nil, rz_int, rz_ref, rz_long, cf1, cf2, Option.toList_some, Option.toList_none, List.cons_append, List.nil_append, vi19, true_and]
      exact ⟨⟨_, rfl, by rw [s4]⟩, hI0⟩
    · rw [show nI 12 = 12 from rfl, eX9_told_1_12]
      simp only [eX9_told_180, eX9_told_181, eX9_told_184, eX9_told_187, fx0, fx1, fx2, fx3, fx4, nl_int, nl_ref, nl_none, nl_ti, rz_nil, rz_int, rz_ref, rz_long, cf1, cf2, Option.toList_some, Option.toList_none, List.cons_append, List.nil_append]
      refine hm _ ?_
      rw [show nI 12 = 12 from rfl, eX10_told_1_12]
      simp only [eX10_told_159, eX10_told_160, eX10_told_163, eX10_told_165, eX10_told_166, fx0, fx1, fx2, fx3, fx4, nl_int, nl_ref, nl_none, nl_ti, rz_nil, rz_int, rz_ref, rz_long, cf1, cf2, Option.toList_some, Option.toList_none, List.cons_append, List.nil_append, vi19, true_and]
      exact ⟨⟨_, rfl, by rw [s5]⟩, hI0⟩
    · rw [show nI 13 = 13 from rfl, eX9_told_1_13]
      simp only [eX9_told_188, eX9_told_189, eX9_told_192, eX9_told_195, fx0, fx1, fx2, fx3, fx4, nl_int, nl_ref, nl_none, nl_ti, rz_nil, rz_int, rz_ref, rz_long, cf1, cf2, Option.toList_some, Option.toList_none, List.cons_append, List.nil_append]
      refine hm _ ?_
      rw [show nI 13 = 13 from rfl, eX10_told_1_13]
      simp only [eX10_told_167, eX10_told_168, eX10_told_171, eX10_told_173, eX10_told_174, fx0, fx1, fx2, fx3, fx4, nl_int, nl_ref, nl_none, nl_ti, rz_nil, rz_int, rz_ref, rz_long, cf1, cf2, Option.toList_some, Option.toList_none, List.cons_append, List.nil_append, vi19, true_and]
      exact ⟨⟨_, rfl, by rw [s6]⟩, hI0⟩
    · rw [show nI 14 = 14 from rfl, eX9_told_1_14]
      simp only [eX9_told_196, eX9_told_197, eX9_told_200, eX9_told_203, fx0, fx1, fx2, fx3, fx4, nl_int, nl_ref, nl_none, nl_ti, rz_nil, rz_int, rz_ref, rz_long, cf1, cf2, Option.toList_some, Option.toList_none, List.cons_append, List.nil_append]
      refine hm _ ?_
      rw [show nI 14 = 14 from rfl, eX10_told_1_14]
      simp only [eX10_told_175, eX10_told_176, eX10_told_179, fx0, fx1, fx2, fx3, fx4, nl_int, nl_ref, nl_none, nl_ti, rz_nil, rz_int, rz_ref, rz_long, cf1, cf2, Option.toList_some, Option.toList_none, List.cons_append, List.nil_append, vi19, true_and]
      exact ⟨⟨_, rfl, by rw [e1, e2]⟩, hI0⟩
    · rw [show nI 15 = 15 from rfl, eX9_told_1_15]
      simp only [eX9_told_204, eX9_told_205, eX9_told_208, eX9_told_211, fx0, fx1, fx2, fx3, fx4, nl_int, nl_ref, nl_none, nl_ti, rz_nil, rz_int, rz_ref, rz_long, cf1, cf2, Option.toList_some, Option.toList_none, List.cons_append, List.nil_append]
      refine hm _ ?_
      rw [show nI 15 = 15 from rfl, eX10_told_1_15]
      simp only [eX10_told_180, eX10_told_181, eX10_told_184, fx0, fx1, fx2, fx3, fx4, nl_int, nl_ref, nl_none, nl_ti, rz_nil, rz_int, rz_ref, rz_long, cf1, cf2, Option.toList_some, Option.toList_none, List.cons_append, List.nil_append, vi19, true_and]
      exact ⟨⟨_, rfl, by rw [b1, b2]⟩, hI0⟩
    · rw [show nI 16 = 16 from rfl, eX9_told_1_16]
      simp only [eX9_told_212, eX9_told_213, eX9_told_216, eX9_told_219, fx0, fx1, fx2, fx3, fx4, nl_int, nl_ref, nl_none, nl_ti, rz_nil, rz_int, rz_ref, rz_long, cf1, cf2, Option.toList_some, Option.toList_none, List.cons_append, List.nil_append]
      refine hm _ ?_
      rw [show nI 16 = 16 from rfl, eX10_told_1_16]
      simp only [eX10_told_185, eX10_told_186, eX10_told_189, fx0, fx1, fx2, fx3, fx4, nl_int, nl_ref, nl_none, nl_ti, rz_nil, rz_int, rz_ref, rz_long, cf1, cf2, Option.toList_some, Option.toList_none, List.cons_append, List.nil_append, vi19, true_and]
      exact ⟨⟨_, rfl, by rw [hH.2.1, hn]⟩, hI0⟩
  · rw [eX9_told_1_d hx]
    simp only [eX9_told_220, eX9_told_222, fx0, fx1, fx2, fx3, fx4, nl_int, nl_ref, nl_none, nl_ti, rz_nil, rz_int, rz_ref, rz_long, cf1, cf2, Option.toList_some, Option.toList_none, List.cons_append, List.nil_append]
    refine hm _ ?_
    rw [eX10_told_1_d hx]
    simp only [eX10_told_190, eX10_told_192, fx0, fx1, fx2, fx3, fx4, nl_int, nl_ref, nl_none, nl_ti, rz_nil, rz_int, rz_ref, rz_long, cf1, cf2, Option.toList_some, Option.toList_none, List.cons_append, List.nil_append]
    exact ⟨⟨_, rfl, rfl⟩, hI0⟩
theorem op_watcher (hI : Inv σ) (p x : Int32) : Pair l (d + 30) 65 112 [.int p, .int x] σ := by
  have hI0 := hI
  obtain ⟨h, w, s, hK, ⟨hS, hR⟩, hH, hIm, hD, hE, hB, hT⟩ := hI
  have hw6 : w ≤ 6 := hK.1.2.2
  have k1 : σ 9 4 = nI w := hK.1.1
  have k2 : σ 109 4 = nI w := hK.1.2.1
  refine aC_of rfl (Nat.le_of_ble_eq_true rfl) ?_
  show aE l (d + 29) none 9 cX9_watcher (some .int) _ 0 [some (.ref 0), some (.int p), some (.int x)] [] σ
  simp only [eX9_watcher_0, eX9_watcher_1, eX9_watcher_4, eX9_watcher_5, fx0, fx1, fx2, fx3, fx4, nl_int, nl_ref, nl_none, nl_ti, rz_nil, rz_int, rz_ref, rz_long, cf1, cf2, Option.toList_some, Option.toList_none, List.cons_append, List.nil_append]
  refine aC.of (c_hasWatcher (Or.inr rfl)) ?_
  rw [k1]
  have hm : ∀ (P : Option Value → aW → Prop) (v : Int32), inB p.toInt64 0 (nI w - 1).toInt64 = v → aE l (d + 29) none 10 cX10_watcher (some .int) P 5 [some (.ref 109), some (.int p), some (.int x)] [.int v] σ → aC l (d + 30) 112 [.ref 109, .int p, .int x] σ P := by
    intro P v hv hP
    refine aC_of rfl (Nat.le_of_ble_eq_true rfl) ?_
    show aE l (d + 29) none 10 cX10_watcher (some .int) _ 0 [some (.ref 109), some (.int p), some (.int x)] [] σ
    simp only [eX10_watcher_0, eX10_watcher_1, eX10_watcher_2, fx0, fx1, fx2, fx3, fx4, nl_int, nl_ref, nl_none, nl_ti, rz_nil, rz_int, rz_ref, rz_long, cf1, cf2, Option.toList_some, Option.toList_none, List.cons_append, List.nil_append]
    refine aC.of m_isWatcher ?_
    rw [k2, hv]
    exact hP
  rcases wat p hw6 with ⟨q, hq, rfl⟩ | ⟨z1, z2⟩
  · obtain ⟨o1, o2⟩ := wat1 hq hw6
    have hin : vp_in (nI q) 6 := vin (by omega) (by decide)
    have hin2 : vp_in (nI q) 19 := vin (by omega) (by decide)
    have hin3 : vp_in (nI (6 + q)) 19 := vin (by omega) (by decide)
    have hcl : (nI q).toNatClampNeg = q := nic (by omega)
    have h6 : (6 : Int32) + nI q = nI (6 + q) := nI_add 6 q
    have hcl6 : (nI (6 + q)).toNatClampNeg = 6 + q := nic (by omega)
    obtain ⟨p1, p2, p3, -⟩ := hK.2.2.2.2.1 q hq
    have s0 : σ 16 q = σ 114 q := hS.1 q hq
    have s1 : σ 17 q = σ 114 (6 + q) := hS.2.1 q (by omega)
    rw [o1]
    simp only [eX9_watcher_8, eX9_watcher_11, eX9_watcher_13, eX9_watcher_14, fx0, fx1, fx2, fx3, fx4, nl_int, nl_ref, nl_none, nl_ti, rz_nil, rz_int, rz_ref, rz_long, cf1, cf2, Option.toList_some, Option.toList_none, List.cons_append, List.nil_append, show ¬ (1 : Int32) = 0 by decide, if_false]
    rcases sw_out (x := x) (n := 4) (by decide) with ⟨k, hk, rfl⟩ | hx
    · rcases (show k = 0 ∨ k = 1 ∨ k = 2 ∨ k = 3 ∨ k = 4 by omega) with rfl | rfl | rfl | rfl | rfl
      · rw [show nI 0 = 0 from rfl, eX9_watcher_15_0]
        simp only [eX9_watcher_48, eX9_watcher_49, eX9_watcher_52, eX9_watcher_55, eX9_watcher_56, eX9_watcher_57, fx0, fx1, fx2, fx3, fx4, nl_int, nl_ref, nl_none, nl_ti, rz_nil, rz_int, rz_ref, rz_long, cf1, cf2, Option.toList_some, Option.toList_none, List.cons_append, List.nil_append, hin, hcl, true_and]
        refine hm _ 1 o2 ?_
        simp only [eX10_watcher_5, eX10_watcher_8, eX10_watcher_10, eX10_watcher_11, fx0, fx1, fx2, fx3, fx4, nl_int, nl_ref, nl_none, nl_ti, rz_nil, rz_int, rz_ref, rz_long, cf1, cf2, Option.toList_some, Option.toList_none, List.cons_append, List.nil_append, show ¬ (1 : Int32) = 0 by decide, if_false]
        rw [show nI 0 = 0 from rfl, eX10_watcher_12_0]
        simp only [eX10_watcher_48, eX10_watcher_49, eX10_watcher_52, eX10_watcher_53, eX10_watcher_54, fx0, fx1, fx2, fx3, fx4, nl_int, nl_ref, nl_none, nl_ti, rz_nil, rz_int, rz_ref, rz_long, cf1, cf2, Option.toList_some, Option.toList_none, List.cons_append, List.nil_append, hin, hin2, hin3, hcl, h6, hcl6, true_and]
        exact ⟨⟨_, rfl, by rw [s0]⟩, hI0⟩
      · rw [show nI 1 = 1 from rfl, eX9_watcher_15_1]
        simp only [eX9_watcher_58, eX9_watcher_59, eX9_watcher_62, eX9_watcher_65, eX9_watcher_66, eX9_watcher_67, fx0, fx1, fx2, fx3, fx4, nl_int, nl_ref, nl_none, nl_ti, rz_nil, rz_int, rz_ref, rz_long, cf1, cf2, Option.toList_some, Option.toList_none, List.cons_append, List.nil_append, hin, hcl, true_and]
        refine hm _ 1 o2 ?_
        simp only [eX10_watcher_5, eX10_watcher_8, eX10_watcher_10, eX10_watcher_11, fx0, fx1, fx2, fx3, fx4, nl_int, nl_ref, nl_none, nl_ti, rz_nil, rz_int, rz_ref, rz_long, cf1, cf2, Option.toList_some, Option.toList_none, List.cons_append, List.nil_append, show ¬ (1 : Int32) = 0 by decide, if_false]
        rw [show nI 1 = 1 from rfl, eX10_watcher_12_1]
        simp only [eX10_watcher_55, eX10_watcher_56, eX10_watcher_59, eX10_watcher_60, eX10_watcher_61, fx0, fx1, fx2, fx3, fx4, nl_int, nl_ref, nl_none, nl_ti, rz_nil, rz_int, rz_ref, rz_long, cf1, cf2, Option.toList_some, Option.toList_none, List.cons_append, List.nil_append, hin, hin2, hin3, hcl, h6, hcl6, true_and]
        exact ⟨⟨_, rfl, by rw [p1]⟩, hI0⟩
      · rw [show nI 2 = 2 from rfl, eX9_watcher_15_2]
        simp only [eX9_watcher_68, eX9_watcher_69, eX9_watcher_72, eX9_watcher_75, eX9_watcher_76, eX9_watcher_77, fx0, fx1, fx2, fx3, fx4, nl_int, nl_ref, nl_none, nl_ti, rz_nil, rz_int, rz_ref, rz_long, cf1, cf2, Option.toList_some, Option.toList_none, List.cons_append, List.nil_append, hin, hcl, true_and]
        refine hm _ 1 o2 ?_
        simp only [eX10_watcher_5, eX10_watcher_8, eX10_watcher_10, eX10_watcher_11, fx0, fx1, fx2, fx3, fx4, nl_int, nl_ref, nl_none, nl_ti, rz_nil, rz_int, rz_ref, rz_long, cf1, cf2, Option.toList_some, Option.toList_none, List.cons_append, List.nil_append, show ¬ (1 : Int32) = 0 by decide, if_false]
        rw [show nI 2 = 2 from rfl, eX10_watcher_12_2]
        simp only [eX10_watcher_62, eX10_watcher_63, eX10_watcher_66, eX10_watcher_67, eX10_watcher_68, fx0, fx1, fx2, fx3, fx4, nl_int, nl_ref, nl_none, nl_ti, rz_nil, rz_int, rz_ref, rz_long, cf1, cf2, Option.toList_some, Option.toList_none, List.cons_append, List.nil_append, hin, hin2, hin3, hcl, h6, hcl6, true_and]
        exact ⟨⟨_, rfl, by rw [p2]⟩, hI0⟩
      · rw [show nI 3 = 3 from rfl, eX9_watcher_15_3]
        simp only [eX9_watcher_78, eX9_watcher_79, eX9_watcher_82, eX9_watcher_85, eX9_watcher_86, eX9_watcher_87, fx0, fx1, fx2, fx3, fx4, nl_int, nl_ref, nl_none, nl_ti, rz_nil, rz_int, rz_ref, rz_long, cf1, cf2, Option.toList_some, Option.toList_none, List.cons_append, List.nil_append, hin, hcl, true_and]
        refine hm _ 1 o2 ?_
        simp only [eX10_watcher_5, eX10_watcher_8, eX10_watcher_10, eX10_watcher_11, fx0, fx1, fx2, fx3, fx4, nl_int, nl_ref, nl_none, nl_ti, rz_nil, rz_int, rz_ref, rz_long, cf1, cf2, Option.toList_some, Option.toList_none, List.cons_append, List.nil_append, show ¬ (1 : Int32) = 0 by decide, if_false]
        rw [show nI 3 = 3 from rfl, eX10_watcher_12_3]
        simp only [eX10_watcher_69, eX10_watcher_70, eX10_watcher_73, eX10_watcher_74, eX10_watcher_75, fx0, fx1, fx2, fx3, fx4, nl_int, nl_ref, nl_none, nl_ti, rz_nil, rz_int, rz_ref, rz_long, cf1, cf2, Option.toList_some, Option.toList_none, List.cons_append, List.nil_append, hin, hin2, hin3, hcl, h6, hcl6, true_and]
        exact ⟨⟨_, rfl, by rw [p3]⟩, hI0⟩
      · rw [show nI 4 = 4 from rfl, eX9_watcher_15_4]
        simp only [eX9_watcher_88, eX9_watcher_89, eX9_watcher_92, eX9_watcher_95, eX9_watcher_96, eX9_watcher_97, fx0, fx1, fx2, fx3, fx4, nl_int, nl_ref, nl_none, nl_ti, rz_nil, rz_int, rz_ref, rz_long, cf1, cf2, Option.toList_some, Option.toList_none, List.cons_append, List.nil_append, hin, hcl, true_and]
        refine hm _ 1 o2 ?_
        simp only [eX10_watcher_5, eX10_watcher_8, eX10_watcher_10, eX10_watcher_11, fx0, fx1, fx2, fx3, fx4, nl_int, nl_ref, nl_none, nl_ti, rz_nil, rz_int, rz_ref, rz_long, cf1, cf2, Option.toList_some, Option.toList_none, List.cons_append, List.nil_append, show ¬ (1 : Int32) = 0 by decide, if_false]
        rw [show nI 4 = 4 from rfl, eX10_watcher_12_4]
        simp only [eX10_watcher_76, eX10_watcher_77, eX10_watcher_80, eX10_watcher_82, eX10_watcher_83, eX10_watcher_84, eX10_watcher_85, fx0, fx1, fx2, fx3, fx4, nl_int, nl_ref, nl_none, nl_ti, rz_nil, rz_int, rz_ref, rz_long, cf1, cf2, Option.toList_some, Option.toList_none, List.cons_append, List.nil_append, hin, hin2, hin3, hcl, h6, hcl6, true_and]
        exact ⟨⟨_, rfl, by rw [s1]⟩, hI0⟩
    · rw [eX9_watcher_15_d hx]
      simp only [eX9_watcher_98, eX9_watcher_100, fx0, fx1, fx2, fx3, fx4, nl_int, nl_ref, nl_none, nl_ti, rz_nil, rz_int, rz_ref, rz_long, cf1, cf2, Option.toList_some, Option.toList_none, List.cons_append, List.nil_append]
      refine hm _ 1 o2 ?_
      simp only [eX10_watcher_5, eX10_watcher_8, eX10_watcher_10, eX10_watcher_11, fx0, fx1, fx2, fx3, fx4, nl_int, nl_ref, nl_none, nl_ti, rz_nil, rz_int, rz_ref, rz_long, cf1, cf2, Option.toList_some, Option.toList_none, List.cons_append, List.nil_append, show ¬ (1 : Int32) = 0 by decide, if_false]
      rw [eX10_watcher_12_d hx]
      simp only [eX10_watcher_86, eX10_watcher_88, fx0, fx1, fx2, fx3, fx4, nl_int, nl_ref, nl_none, nl_ti, rz_nil, rz_int, rz_ref, rz_long, cf1, cf2, Option.toList_some, Option.toList_none, List.cons_append, List.nil_append]
      exact ⟨⟨_, rfl, rfl⟩, hI0⟩
  · rw [z1]
    simp only [eX9_watcher_8, eX9_watcher_11, eX9_watcher_13, fx0, fx1, fx2, fx3, fx4, nl_int, nl_ref, nl_none, nl_ti, rz_nil, rz_int, rz_ref, rz_long, cf1, cf2, Option.toList_some, Option.toList_none, List.cons_append, List.nil_append, if_true]
    refine hm _ 0 z2 ?_
    simp only [eX10_watcher_5, eX10_watcher_8, eX10_watcher_10, fx0, fx1, fx2, fx3, fx4, nl_int, nl_ref, nl_none, nl_ti, rz_nil, rz_int, rz_ref, rz_long, cf1, cf2, Option.toList_some, Option.toList_none, List.cons_append, List.nil_append, if_true]
    exact ⟨⟨_, rfl, rfl⟩, hI0⟩
end O2
