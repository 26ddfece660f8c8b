/-! history: what remember and recall do to what the class holds -/
def rowC (n : Nat) (rows : Nat → Nat → Int32) (r : Nat → Int32) (j : Nat) : Nat → Int32 := if n < 20 then (if j < n then rows j else r) else (if j < 19 then rows (j + 1) else r)
theorem cpS_off {σ : aW} {a b c : Nat} (h : c < a ∨ a + 2 < c) : cpS σ a b c = σ c := by
  unfold cpS
  rw [if_neg (by omega), if_neg (by omega), if_neg (by omega)]
theorem cpS_St {w : Nat} {σ : aW} {a b : Nat} {r : Nat → Int32} (h : StR w σ b r) (hw : w ≤ 6) : StR w (cpS σ a b) a r := by
  refine h.congr (fun k hk => ?_) (fun k hk => ?_) (fun k hk => ?_) hw (fun _ _ => rfl)
  · unfold cpS
    rw [if_pos rfl, if_pos hk]
  · unfold cpS
    rw [if_neg (by omega), if_pos rfl, if_pos hk]
  · unfold cpS
    rw [if_neg (by omega), if_neg (by omega), if_pos rfl, if_pos hk]
section O1
variable {l : Launch} {d : Nat} {σ : aW}
theorem c_remC {w n : Nat} {rows : Nat → Nat → Int32} {r : Nat → Int32} (hh : HistC w σ n rows) (hs : StR w σ 15 r) (hw : w ≤ 6) : aC l (d + 2) 21 [.ref 18, .ref 15] σ (fun ro σ' => ro = none ∧ HistC w σ' (numN n) (rowC n rows r) ∧ ∀ c, (c < 18 ∨ 80 ≤ c) → σ' c = σ c) := by
  obtain ⟨hn, h0, x, hx, h1, h2⟩ := hh
  refine aC.of (c_remember h0 h1 hn hx) ⟨rfl, ?_, fun c hc => ?_⟩
  · have hNle : numN n ≤ 20 := by unfold numN; split <;> omega
    refine ⟨hNle, by simp only [su_at, su_ne, sr_eq, sr_ne, ne_eq, Nat.reduceEqDiff, not_false_eq_true, not_true_eq_false, if_true, if_false]; rfl, (x + 1) % 20, Nat.mod_lt _ (by decide), by simp only [su_at, su_ne, sr_eq, sr_ne, ne_eq, Nat.reduceEqDiff, not_false_eq_true, not_true_eq_false, if_true, if_false], fun j hj => ?_⟩
    have hold : ∀ i jj : Nat, i < 20 → i ≠ x → jj < n → (x + 20 - n + jj) % 20 = i → StR w (su (su (cpS σ (20 + 3 * x) 15) 18 1 (nI ((x + 1) % 20))) 18 0 (nI (if n < 20 then n + 1 else 20))) (20 + 3 * i) (rows jj) := by
      intro i jj hi hne hjj he
      have := h2 jj hjj
      rw [he] at this
      refine this.same ?_ ?_ ?_
      · rw [su_ne (by omega), su_ne (by omega), cpS_off (by omega)]
      · rw [su_ne (by omega), su_ne (by omega), cpS_off (by omega)]
      · rw [su_ne (by omega), su_ne (by omega), cpS_off (by omega)]
    have hnew : StR w (su (su (cpS σ (20 + 3 * x) 15) 18 1 (nI ((x + 1) % 20))) 18 0 (nI (if n < 20 then n + 1 else 20))) (20 + 3 * x) r := by
      have := cpS_St (a := 20 + 3 * x) hs hw
      refine this.same ?_ ?_ ?_
      · rw [su_ne (by omega), su_ne (by omega)]
      · rw [su_ne (by omega), su_ne (by omega)]
      · rw [su_ne (by omega), su_ne (by omega)]
    unfold rowC
    unfold numN at hj ⊢
    by_cases h20 : n < 20
    · rw [if_pos h20] at hj ⊢
      by_cases hjn : j < n
      · rw [if_pos h20, if_pos hjn]
        have e : ((x + 1) % 20 + 20 - (n + 1) + j) % 20 = (x + 20 - n + j) % 20 := by omega
        rw [e]
        have hh := hold ((x + 20 - n + j) % 20) j (Nat.mod_lt _ (by decide)) (by omega) hjn rfl
        rw [if_pos h20] at hh
        exact hh
      · rw [if_pos h20, if_neg hjn]
        have e : ((x + 1) % 20 + 20 - (n + 1) + j) % 20 = x := by omega
        rw [e]
        rw [if_pos h20] at hnew
        exact hnew
    · rw [if_neg h20] at hj ⊢
      by_cases hjn : j < 19
      · rw [if_neg h20, if_pos hjn]
        have e : ((x + 1) % 20 + 20 - 20 + j) % 20 = (x + 20 - n + (j + 1)) % 20 := by omega
        rw [e]
        have hh := hold ((x + 20 - n + (j + 1)) % 20) (j + 1) (Nat.mod_lt _ (by decide)) (by omega) (by omega) rfl
        rw [if_neg h20] at hh
        exact hh
      · rw [if_neg h20, if_neg hjn]
        have e : ((x + 1) % 20 + 20 - 20 + j) % 20 = x := by omega
        rw [e]
        rw [if_neg h20] at hnew
        exact hnew
  · rw [su_ne (by omega), su_ne (by omega), cpS_off (by omega)]
theorem c_recC {w n : Nat} {rows : Nat → Nat → Int32} (hh : HistC w σ n rows) (hn0 : 0 < n) (hw : w ≤ 6) : aC l (d + 2) 22 [.ref 18, .ref 15] σ (fun ro σ' => ro = some (.int 1) ∧ StR w σ' 15 (rows (n - 1)) ∧ HistC w σ' (n - 1) rows ∧ ∀ c, (c < 15 ∨ 18 < c) → σ' c = σ c) := by
  obtain ⟨hn, h0, x, hx, h1, h2⟩ := hh
  refine aC.of (c_recall h0 h1 hn0 hn hx) ⟨rfl, ?_, ?_, fun c hc => ?_⟩
  · have h3 := h2 (n - 1) (by omega)
    rw [show (x + 20 - n + (n - 1)) % 20 = (x + 19) % 20 by omega] at h3
    have := cpS_St (a := 15) h3 hw
    refine this.same ?_ ?_ ?_
    · rw [su_ne (by omega), su_ne (by omega)]
    · rw [su_ne (by omega), su_ne (by omega)]
    · rw [su_ne (by omega), su_ne (by omega)]
  · refine ⟨by omega, by simp only [su_at, su_ne, sr_eq, sr_ne, ne_eq, Nat.reduceEqDiff, not_false_eq_true, not_true_eq_false, if_true, if_false], (x + 19) % 20, Nat.mod_lt _ (by decide), by simp only [su_at, su_ne, sr_eq, sr_ne, ne_eq, Nat.reduceEqDiff, not_false_eq_true, not_true_eq_false, if_true, if_false], fun j hj => ?_⟩
    have h3 := h2 j (by omega)
    rw [show ((x + 19) % 20 + 20 - (n - 1) + j) % 20 = (x + 20 - n + j) % 20 by omega]
    have hm : (x + 20 - n + j) % 20 < 20 := Nat.mod_lt _ (by decide)
    generalize (x + 20 - n + j) % 20 = i at h3 hm
    refine h3.same ?_ ?_ ?_
    · rw [su_ne (by omega), su_ne (by omega), cpS_off (by omega)]
    · rw [su_ne (by omega), su_ne (by omega), cpS_off (by omega)]
    · rw [su_ne (by omega), su_ne (by omega), cpS_off (by omega)]
  · rw [su_ne (by omega), su_ne (by omega), cpS_off (by omega)]
end O1
