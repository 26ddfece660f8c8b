/-! a number and the end of a clause, as steps on (place, code, where) -/
abbrev rS := Nat × Int32 × Int32
def rd (tx : Nat → Int32) (n : Nat) (lo hi : Int32) (t : rS) : rS := if t.2.1 = 0 then (nE tx n t.1, nC tx n t.1 lo hi, if nC tx n t.1 lo hi = 0 then t.2.2 else nI (nP tx n t.1)) else t
def rdV (tx : Nat → Int32) (n : Nat) (lo : Int32) (t : rS) : Int32 := if t.2.1 = 0 then nV tx n t.1 else lo
def rdE (tx : Nat → Int32) (n : Nat) (t : rS) : rS := if t.2.1 = 0 then (if hrF tx n (sk tx n t.1) = 59 then (sk tx n t.1 + 1, 0, t.2.2) else (sk tx n t.1, 1, nI (sk tx n t.1))) else t
def RS (n : Nat) (τ : aW) (t : rS) : Prop := τ 1 1 = nI n ∧ τ 1 4 = nI t.1 ∧ t.1 ≤ n ∧ τ 1 5 = t.2.1 ∧ τ 1 2 = t.2.2
def F1 (τ τ' : aW) : Prop := (∀ a, a ≠ 1 → τ' a = τ a) ∧ ∀ k, k ≠ 2 → k ≠ 4 → k ≠ 5 → τ' 1 k = τ 1 k
theorem F1.rf (τ : aW) : F1 τ τ := ⟨fun _ _ => rfl, fun _ _ _ _ => rfl⟩
theorem nE_le {tx : Nat → Int32} {n p : Nat} (hp : p ≤ n) : p ≤ nE tx n p ∧ nE tx n p ≤ n := by
  obtain ⟨g1, g2⟩ := sk_le (tx := tx) hp
  have := fgF_le (tx := tx) (n := n) (n - sk tx n p) (sk tx n p) (by omega)
  unfold nE
  omega
section NM
variable {l : Launch} {d : Nat} {σ : aW}
theorem c_num {n : Nat} {t : rS} {lo hi : Int32} {P : Option Value → aW → Prop} (hn : n ≤ 220) (h : RS n σ t) (hP : ∀ τ, RS n τ (rd (σ 8) n lo hi t) → F1 σ τ → P (some (.int (rdV (σ 8) n lo t))) τ) : aC l (d + 3) 30 [.ref 1, .int lo, .int hi] σ P := by
  obtain ⟨h1, h4, hp, h5, h2⟩ := h
  by_cases e : t.2.1 = 0
  · refine aC.of (c_readNumber h1 hn h4 hp (by rw [h5]; exact e)) ?_
    obtain ⟨g1, g2⟩ := nE_le (tx := σ 8) hp
    unfold rd rdV at hP
    rw [if_pos e, if_pos e] at hP
    by_cases ec : nC (σ 8) n t.1 lo hi = 0
    · rw [if_pos ec] at hP ⊢
      refine hP _ ⟨?_, ?_, g2, ?_, ?_⟩ ⟨fun a ha => su_ne ha, fun k _ k4 _ => by rw [su_at, if_neg k4]⟩
      · rw [su_at, if_neg (by decide)]; exact h1
      · rw [su_at, if_pos rfl]
      · rw [su_at, if_neg (by decide), h5, e]; exact ec.symm
      · rw [su_at, if_neg (by decide)]; exact h2
    · rw [if_neg ec] at hP ⊢
      refine hP _ ⟨?_, ?_, g2, ?_, ?_⟩ ⟨fun a ha => by rw [su_ne ha, su_ne ha, su_ne ha], fun k k2 k4 k5 => by rw [su_at, if_neg k2, su_at, if_neg k5, su_at, if_neg k4]⟩
      · rw [su_at, if_neg (by decide), su_at, if_neg (by decide), su_at, if_neg (by decide)]; exact h1
      · rw [su_at, if_neg (by decide), su_at, if_neg (by decide), su_at, if_pos rfl]
      · rw [su_at, if_neg (by decide), su_at, if_pos rfl]
      · rw [su_at, if_pos rfl]
  · refine aC.of (c_readNo (d := d + 2) h5 e) ?_
    unfold rd rdV at hP
    rw [if_neg e, if_neg e] at hP
    exact hP σ ⟨h1, h4, hp, h5, h2⟩ (F1.rf σ)
theorem c_end {n : Nat} {t : rS} {P : Option Value → aW → Prop} (hn : n ≤ 220) (h : RS n σ t) (hP : ∀ τ, RS n τ (rdE (σ 8) n t) → F1 σ τ → P none τ) : aC l (d + 3) 31 [.ref 1] σ P := by
  obtain ⟨h1, h4, hp, h5, h2⟩ := h
  by_cases e : t.2.1 = 0
  · refine aC.of (c_readEnd h1 hn h4 hp (by rw [h5]; exact e)) ?_
    obtain ⟨g1, g2⟩ := sk_le (tx := σ 8) hp
    unfold rdE at hP
    rw [if_pos e] at hP
    by_cases ec : hrF (σ 8) n (sk (σ 8) n t.1) = 59
    · rw [if_pos ec] at hP ⊢
      have hlt : sk (σ 8) n t.1 < n := by
        by_cases c : sk (σ 8) n t.1 < n
        · exact c
        · unfold hrF at ec
          rw [if_neg c] at ec
          exact absurd ec (by decide)
      refine hP _ ⟨?_, ?_, by show sk (σ 8) n t.1 + 1 ≤ n; omega, ?_, ?_⟩ ⟨fun a ha => su_ne ha, fun k _ k4 _ => by rw [su_at, if_neg k4]⟩
      · rw [su_at, if_neg (by decide)]; exact h1
      · rw [su_at, if_pos rfl]
      · rw [su_at, if_neg (by decide), h5, e]
      · rw [su_at, if_neg (by decide)]; exact h2
    · rw [if_neg ec] at hP ⊢
      refine hP _ ⟨?_, ?_, g2, ?_, ?_⟩ ⟨fun a ha => by rw [su_ne ha, su_ne ha, su_ne ha], fun k k2 k4 k5 => by rw [su_at, if_neg k2, su_at, if_neg k5, su_at, if_neg k4]⟩
      · rw [su_at, if_neg (by decide), su_at, if_neg (by decide), su_at, if_neg (by decide)]; exact h1
      · rw [su_at, if_neg (by decide), su_at, if_neg (by decide), su_at, if_pos rfl]
      · rw [su_at, if_neg (by decide), su_at, if_pos rfl]
      · rw [su_at, if_pos rfl]
  · refine aC.of (c_readEndNo (d := d + 2) h5 e) ?_
    unfold rdE at hP
    rw [if_neg e] at hP
    exact hP σ ⟨h1, h4, hp, h5, h2⟩ (F1.rf σ)
end NM
