/-! the same text, the same numbers -/
theorem sk_congr {tx tx' : Nat → Int32} {n : Nat} (h : ∀ j, j < n → tx j = tx' j) (p : Nat) : sk tx n p = sk tx' n p := skF_congr h _ _
theorem fgF_congr {tx tx' : Nat → Int32} {n : Nat} (h : ∀ j, j < n → tx j = tx' j) : ∀ f p, fgF tx n f p = fgF tx' n f p := by
  intro f
  induction f with
  | zero => exact fun _ => rfl
  | succ f ih =>
    intro p
    rw [fgF_s, fgF_s, ih]
    by_cases e : p < n
    · rw [h p e]
    · rw [if_neg (fun c => e c.1), if_neg (fun c => e c.1)]
theorem cvF_congr {tx tx' : Nat → Int32} {n p : Nat} (h : ∀ j, j < n → tx j = tx' j) : ∀ k, p + k ≤ n → cvF tx p k = cvF tx' p k := by
  intro k
  induction k with
  | zero => exact fun _ => rfl
  | succ k ih => intro hk; rw [cvF_s, cvF_s, ih (by omega), h (p + k) (by omega)]
theorem hrF_congr {tx tx' : Nat → Int32} {n : Nat} (h : ∀ j, j < n → tx j = tx' j) (p : Nat) : hrF tx n p = hrF tx' n p := by
  unfold hrF
  by_cases e : p < n
  · rw [if_pos e, if_pos e, h p e]
  · rw [if_neg e, if_neg e]
theorem nE_congr {tx tx' : Nat → Int32} {n : Nat} (h : ∀ j, j < n → tx j = tx' j) (p : Nat) : nE tx n p = nE tx' n p := by
  unfold nE
  rw [sk_congr h p, fgF_congr h]
theorem nK_congr {tx tx' : Nat → Int32} {n : Nat} (h : ∀ j, j < n → tx j = tx' j) (p : Nat) : nK tx n p = nK tx' n p := by
  unfold nK nP
  rw [nE_congr h p, sk_congr h p]
theorem nV_congr {tx tx' : Nat → Int32} {n : Nat} (h : ∀ j, j < n → tx j = tx' j) {p : Nat} (hp : p ≤ n) : nV tx n p = nV tx' n p := by
  have h1 : nP tx' n p ≤ nE tx' n p ∧ nE tx' n p ≤ n := by
    obtain ⟨g1, g2⟩ := sk_le (tx := tx') hp
    exact fgF_le (tx := tx') (n := n) (n - sk tx' n p) (sk tx' n p) (by omega)
  unfold nV
  rw [nK_congr h p, show nP tx n p = nP tx' n p from sk_congr h p]
  exact cvF_congr h _ (by unfold nK; omega)
theorem nC_congr {tx tx' : Nat → Int32} {n : Nat} (h : ∀ j, j < n → tx j = tx' j) {p : Nat} (hp : p ≤ n) (lo hi : Int32) : nC tx n p lo hi = nC tx' n p lo hi := by
  unfold nC
  rw [nK_congr h p, nV_congr h hp]
theorem rd_congr {tx tx' : Nat → Int32} {n : Nat} (h : ∀ j, j < n → tx j = tx' j) {t : rS} (hp : t.1 ≤ n) (lo hi : Int32) : rd tx n lo hi t = rd tx' n lo hi t := by
  unfold rd
  rw [nE_congr h, nC_congr h hp, show nP tx n t.1 = nP tx' n t.1 from sk_congr h t.1]
theorem rdV_congr {tx tx' : Nat → Int32} {n : Nat} (h : ∀ j, j < n → tx j = tx' j) {t : rS} (hp : t.1 ≤ n) (lo : Int32) : rdV tx n lo t = rdV tx' n lo t := by
  unfold rdV
  rw [nV_congr h hp]
theorem rdE_congr {tx tx' : Nat → Int32} {n : Nat} (h : ∀ j, j < n → tx j = tx' j) (t : rS) : rdE tx n t = rdE tx' n t := by
  unfold rdE
  rw [sk_congr h t.1, hrF_congr h]
theorem rd_le {tx : Nat → Int32} {n : Nat} {t : rS} (hp : t.1 ≤ n) (lo hi : Int32) : (rd tx n lo hi t).1 ≤ n := by
  unfold rd
  split
  · exact (nE_le hp).2
  · exact hp
