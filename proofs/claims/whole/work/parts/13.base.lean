theorem fx0 : cls 0 = 9 ∧ rf 0 0 = 1 ∧ rf 0 1 = 9 ∧ rf 0 2 = 15 ∧ rf 0 3 = 18 ∧ rf 0 4 = 80 ∧ rf 0 5 = 90 ∧ rf 0 6 = 91 ∧ rf 0 7 = 103 ∧ rf 0 8 = 106 ∧ cls 1 = 5 ∧ rf 1 0 = 2 ∧ rf 1 3 = 8 ∧ cls 2 = 2 ∧ rf 2 6 = 3 ∧ rf 2 7 = 4 ∧ rf 2 8 = 5 ∧ rf 2 9 = 6 ∧ rf 2 10 = 7 ∧ akd 3 = 0 ∧ aln 3 = 6 ∧ akd 4 = 0 ∧ aln 4 = 6 ∧ akd 5 = 0 ∧ aln 5 = 6 ∧ akd 6 = 0 ∧ aln 6 = 6 ∧ akd 7 = 0 ∧ aln 7 = 8 ∧ akd 8 = 0 ∧ aln 8 = 220 ∧ cls 9 = 2 ∧ rf 9 6 = 10 ∧ rf 9 7 = 11 ∧ rf 9 8 = 12 ∧ rf 9 9 = 13 ∧ rf 9 10 = 14 ∧ akd 10 = 0 ∧ aln 10 = 6 ∧ akd 11 = 0 := by decide +kernel
theorem fx1 : aln 11 = 6 ∧ akd 12 = 0 ∧ aln 12 = 6 ∧ akd 13 = 0 ∧ aln 13 = 6 ∧ akd 14 = 0 ∧ aln 14 = 8 ∧ cls 15 = 7 ∧ rf 15 7 = 16 ∧ rf 15 8 = 17 ∧ akd 16 = 0 ∧ aln 16 = 6 ∧ akd 17 = 0 ∧ aln 17 = 6 ∧ cls 18 = 4 ∧ rf 18 2 = 19 ∧ akd 19 = 2 ∧ aln 19 = 20 ∧ cls 80 = 0 ∧ rf 80 0 = 81 ∧ rf 80 1 = 82 ∧ rf 80 2 = 83 ∧ akd 81 = 2 ∧ aln 81 = 2 ∧ akd 82 = 0 ∧ aln 82 = 2 ∧ akd 83 = 1 ∧ aln 83 = 2 ∧ cls 90 = 3 ∧ cls 91 = 8 ∧ rf 91 0 = 92 ∧ rf 91 2 = 93 ∧ rf 91 3 = 101 ∧ rf 91 4 = 102 ∧ akd 92 = 0 ∧ aln 92 = 6 ∧ akd 93 = 3 ∧ aln 93 = 7 ∧ akd 94 = 0 ∧ aln 94 = 6 := by decide +kernel
theorem fx2 : akd 95 = 0 ∧ aln 95 = 6 ∧ akd 96 = 0 ∧ aln 96 = 6 ∧ akd 97 = 0 ∧ aln 97 = 6 ∧ akd 98 = 0 ∧ aln 98 = 6 ∧ akd 99 = 0 ∧ aln 99 = 6 ∧ akd 100 = 0 ∧ aln 100 = 6 ∧ akd 101 = 0 ∧ aln 101 = 6 ∧ akd 102 = 0 ∧ aln 102 = 6 ∧ cls 103 = 6 ∧ rf 103 1 = 104 ∧ rf 103 2 = 105 ∧ akd 104 = 0 ∧ aln 104 = 8 ∧ akd 105 = 1 ∧ aln 105 = 8 ∧ cls 106 = 1 ∧ rf 106 1 = 107 ∧ rf 106 2 = 108 ∧ akd 107 = 0 ∧ aln 107 = 15 ∧ akd 108 = 0 ∧ aln 108 = 15 ∧ cls 109 = 10 ∧ rf 109 5 = 110 ∧ rf 109 6 = 111 ∧ rf 109 7 = 112 ∧ rf 109 9 = 113 ∧ rf 109 10 = 114 ∧ rf 109 12 = 115 ∧ rf 109 18 = 116 ∧ rf 109 20 = 117 ∧ rf 109 21 = 118 := by decide +kernel
theorem fx3 : rf 109 22 = 119 ∧ rf 109 23 = 120 ∧ rf 109 25 = 121 ∧ rf 109 27 = 122 ∧ rf 109 28 = 123 ∧ rf 109 29 = 124 ∧ rf 109 30 = 125 ∧ rf 109 33 = 126 ∧ rf 109 34 = 127 ∧ rf 109 36 = 128 ∧ rf 109 37 = 129 ∧ rf 109 38 = 130 ∧ rf 109 39 = 131 ∧ akd 110 = 0 ∧ aln 110 = 6 ∧ akd 111 = 0 ∧ aln 111 = 6 ∧ akd 112 = 0 ∧ aln 112 = 6 ∧ akd 113 = 0 ∧ aln 113 = 8 ∧ akd 114 = 0 ∧ aln 114 = 19 ∧ akd 115 = 0 ∧ aln 115 = 220 ∧ akd 116 = 0 ∧ aln 116 = 4 ∧ akd 117 = 0 ∧ aln 117 = 6 ∧ akd 118 = 0 ∧ aln 118 = 6 ∧ akd 119 = 0 ∧ aln 119 = 6 ∧ akd 120 = 0 ∧ aln 120 = 6 ∧ akd 121 = 0 ∧ aln 121 = 8 ∧ akd 122 = 0 ∧ aln 122 = 380 ∧ akd 123 = 0 := by decide +kernel
theorem fx4 : aln 123 = 6 ∧ akd 124 = 0 ∧ aln 124 = 6 ∧ akd 125 = 0 ∧ aln 125 = 6 ∧ akd 126 = 0 ∧ aln 126 = 8 ∧ akd 127 = 1 ∧ aln 127 = 8 ∧ akd 128 = 0 ∧ aln 128 = 15 ∧ akd 129 = 0 ∧ aln 129 = 15 ∧ akd 130 = 0 ∧ aln 130 = 40 ∧ akd 131 = 1 ∧ aln 131 = 2 ∧ rel 93 0 = 94 ∧ rel 93 1 = 95 ∧ rel 93 2 = 96 ∧ rel 93 3 = 97 ∧ rel 93 4 = 98 ∧ rel 93 5 = 99 ∧ rel 93 6 = 100 := by decide +kernel
theorem nl_int (x : Int32) : nl (some (.int x)) = true := id rfl
theorem nl_ref (x : Nat) : nl (some (.ref x)) = true := id rfl
theorem nl_none : nl none = true := id rfl
def ti (t : Option Int32) : Option Value := t.map .int
theorem nl_ti (t : Option Int32) : nl (ti t) = true := by cases t <;> rfl
theorem rsz_nil : rsz [] = 0 := rfl
theorem rsz_int (x : Int32) (t : List Value) : rsz (.int x :: t) = 1 + rsz t := rfl
theorem rsz_ref (x : Nat) (t : List Value) : rsz (.ref x :: t) = 1 + rsz t := rfl
theorem rz_nil (n : Nat) : (rsz [] ≤ n) = True := eq_true (Nat.zero_le n)
theorem rz_int (x : Int32) (t : List Value) (n : Nat) : (rsz (.int x :: t) ≤ n + 1) = (rsz t ≤ n) := propext (by show 1 + rsz t ≤ n + 1 ↔ _; omega)
theorem rz_ref (x : Nat) (t : List Value) (n : Nat) : (rsz (.ref x :: t) ≤ n + 1) = (rsz t ≤ n) := propext (by show 1 + rsz t ≤ n + 1 ↔ _; omega)
theorem rz_long (x : Int64) (t : List Value) (n : Nat) : (rsz (.long x :: t) ≤ n + 2) = (rsz t ≤ n) := propext (by show 2 + rsz t ≤ n + 2 ↔ _; omega)
theorem rsz_long (x : Int64) (t : List Value) : rsz (.long x :: t) = 2 + rsz t := rfl
theorem cf1 : (0 : Int32).toNatClampNeg = 0 ∧ (1 : Int32).toNatClampNeg = 1 ∧ (2 : Int32).toNatClampNeg = 2 ∧ (3 : Int32).toNatClampNeg = 3 ∧ (4 : Int32).toNatClampNeg = 4 ∧ (5 : Int32).toNatClampNeg = 5 ∧ (6 : Int32).toNatClampNeg = 6 ∧ (8 : Int32).toNatClampNeg = 8 ∧ (12 : Int32).toNatClampNeg = 12 ∧ (13 : Int32).toNatClampNeg = 13 ∧ (14 : Int32).toNatClampNeg = 14 ∧ (15 : Int32).toNatClampNeg = 15 ∧ (16 : Int32).toNatClampNeg = 16 ∧ (17 : Int32).toNatClampNeg = 17 ∧ (18 : Int32).toNatClampNeg = 18 := by decide +kernel
theorem cf2 : ¬ (0 : Int32) < 0 ∧ ¬ (6 : Int32) < 0 ∧ ¬ (8 : Int32) < 0 := by decide +kernel
theorem su_eq (σ : aW) (a k : Nat) (v : Int32) : su σ a k v a k = v := by simp [su, upd]
theorem su_at (σ : aW) (a k : Nat) (v : Int32) (k' : Nat) : su σ a k v a k' = if k' = k then v else σ a k' := by simp [su, upd]
theorem su_ne {σ : aW} {a k : Nat} {v : Int32} {a' : Nat} (h : a' ≠ a) : su σ a k v a' = σ a' := by simp [su, h]
theorem su_if (σ : aW) (a k : Nat) (v : Int32) (a' k' : Nat) : su σ a k v a' k' = if a' = a ∧ k' = k then v else σ a' k' := by
  by_cases h : a' = a
  · subst h; simp [su, upd]
  · simp [su, h]
theorem sy_if (σ : aW) (a b n : Nat) (a' k' : Nat) : sy σ a b 0 0 n a' k' = if a' = b ∧ k' < n then σ a k' else σ a' k' := by
  by_cases h : a' = b
  · subst h
    simp only [sy, va_cpy, if_true, true_and]
    by_cases h2 : k' < n
    · simp [h2]
    · simp [h2]
  · simp [sy, h]
/-- a State's place -/
def isSt (a : Nat) : Prop := a = 15 ∨ (∃ i, i < 20 ∧ a = 20 + 3 * i) ∨ (∃ i, i < 2 ∧ a = 84 + 3 * i)
theorem st_facts1 : ∀ i, i < 20 → cls (20 + 3 * i) = 7 ∧ rf (20 + 3 * i) 7 = 20 + 3 * i + 1 ∧ rf (20 + 3 * i) 8 = 20 + 3 * i + 2 ∧ akd (20 + 3 * i + 1) = 0 ∧ akd (20 + 3 * i + 2) = 0 ∧ aln (20 + 3 * i + 1) = 6 ∧ aln (20 + 3 * i + 2) = 6 ∧ rel 19 i = 20 + 3 * i := by decide +kernel
theorem st_facts2 : ∀ i, i < 2 → cls (84 + 3 * i) = 7 ∧ rf (84 + 3 * i) 7 = 84 + 3 * i + 1 ∧ rf (84 + 3 * i) 8 = 84 + 3 * i + 2 ∧ akd (84 + 3 * i + 1) = 0 ∧ akd (84 + 3 * i + 2) = 0 ∧ aln (84 + 3 * i + 1) = 6 ∧ aln (84 + 3 * i + 2) = 6 ∧ rel 81 i = 84 + 3 * i := by decide +kernel
theorem st_facts0 : cls 15 = 7 ∧ rf 15 7 = 15 + 1 ∧ rf 15 8 = 15 + 2 ∧ akd (15 + 1) = 0 ∧ akd (15 + 2) = 0 ∧ aln (15 + 1) = 6 ∧ aln (15 + 2) = 6 := by decide +kernel
theorem isSt.facts {a : Nat} (h : isSt a) : cls a = 7 ∧ rf a 7 = a + 1 ∧ rf a 8 = a + 2 ∧ akd (a + 1) = 0 ∧ akd (a + 2) = 0 ∧ aln (a + 1) = 6 ∧ aln (a + 2) = 6 := by
  rcases h with rfl | ⟨i, hi, rfl⟩ | ⟨i, hi, rfl⟩
  · exact st_facts0
  · obtain ⟨h1, h2, h3, h4, h5, h6, h7, -⟩ := st_facts1 i hi
    exact ⟨h1, h2, h3, h4, h5, h6, h7⟩
  · obtain ⟨h1, h2, h3, h4, h5, h6, h7, -⟩ := st_facts2 i hi
    exact ⟨h1, h2, h3, h4, h5, h6, h7⟩
theorem isSt.now : isSt 15 := Or.inl rfl
