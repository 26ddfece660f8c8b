/-! the best watches: the search, in numbers -/
abbrev acW := Nat × (Nat → Nat)
def stp (M L : Nat → Nat) (p : Nat) (T : Nat → Nat) : Nat → Nat := fun q => if q = p then min 199 (T q + M q) else T q - L q
def updN (r : Nat → Nat) (k v : Nat) : Nat → Nat := fun j => if j = k then v else r j
def takeW (E : Nat) (r : Nat → Nat) (a : acW) : acW := if E < a.1 then (E, r) else a
def lpN (L : Nat → Nat) (n : Nat) (T : Nat → Nat) : Nat → Nat
  | 0 => 0
  | q + 1 => max (lpN L n T q) (T q - L q * n)
theorem lpN_s (L : Nat → Nat) (n : Nat) (T : Nat → Nat) (q : Nat) : lpN L n T (q + 1) = max (lpN L n T q) (T q - L q * n) := by rw [lpN]
def fo (g : Nat → acW → acW) : Nat → acW → acW
  | 0, a => a
  | k + 1, a => g k (fo g k a)
theorem fo_s (g : Nat → acW → acW) (k : Nat) (a : acW) : fo g (k + 1) a = g k (fo g k a) := by rw [fo]
def exW (H w : Nat) (M L Li : Nat → Nat) : Nat → (Nat → Nat) → (Nat → Nat) → acW → acW
  | 0, T, r, a => takeW (lpN L 0 T w) r a
  | n + 1, T, r, a => fo (fun p a' => if stp M L p T p ≤ Li p then exW H w M L Li n (stp M L p T) (updN r (H - (n + 1)) p) a' else a') w a
theorem exW_s (H w : Nat) (M L Li : Nat → Nat) (n : Nat) (T r : Nat → Nat) (a : acW) : exW H w M L Li (n + 1) T r a = fo (fun p a' => if stp M L p T p ≤ Li p then exW H w M L Li n (stp M L p T) (updN r (H - (n + 1)) p) a' else a') w a := by rw [exW]
theorem exW_0 (H w : Nat) (M L Li : Nat → Nat) (T r : Nat → Nat) (a : acW) : exW H w M L Li 0 T r a = takeW (lpN L 0 T w) r a := by rw [exW]
theorem fo_id {g : Nat → acW → acW} {a : acW} : ∀ k, (∀ p, p < k → g p a = a) → fo g k a = a := by
  intro k
  induction k with
  | zero => exact fun _ => rfl
  | succ k ih => intro h; rw [fo_s, ih (fun p hp => h p (by omega)), h k (by omega)]
theorem lpN_mono {L : Nat → Nat} {n n' : Nat} {T T' : Nat → Nat} : ∀ w, (∀ q, q < w → T q - L q * n ≤ T' q - L q * n') → lpN L n T w ≤ lpN L n' T' w := by
  intro w
  induction w with
  | zero => exact fun _ => Nat.le_refl _
  | succ w ih =>
    intro h
    rw [lpN_s, lpN_s]
    have h1 := ih (fun q hq => h q (by omega))
    have h2 := h w (by omega)
    omega
theorem lpN_le {L : Nat → Nat} {n : Nat} {T : Nat → Nat} : ∀ w, (∀ q, q < w → T q ≤ 199) → lpN L n T w ≤ 199 := by
  intro w
  induction w with
  | zero => exact fun _ => Nat.zero_le _
  | succ w ih =>
    intro h
    rw [lpN_s]
    have h1 := ih (fun q hq => h q (by omega))
    have h2 := h w (by omega)
    omega
theorem stp_le {M L : Nat → Nat} {p w : Nat} {T : Nat → Nat} (h : ∀ q, q < w → T q ≤ 199) : ∀ q, q < w → stp M L p T q ≤ 199 := by
  intro q hq
  have := h q hq
  unfold stp
  split
  · omega
  · omega
theorem exW_prune {H w : Nat} {M L Li : Nat → Nat} : ∀ n T r a, (∀ q, q < w → T q ≤ 199) → a.1 ≤ lpN L n T w → exW H w M L Li n T r a = a := by
  intro n
  induction n with
  | zero =>
    intro T r a hT h
    rw [exW_0]
    unfold takeW
    exact if_neg (by omega)
  | succ n ih =>
    intro T r a hT h
    rw [exW_s]
    refine fo_id w (fun p hp => ?_)
    show (if stp M L p T p ≤ Li p then exW H w M L Li n (stp M L p T) (updN r (H - (n + 1)) p) a else a) = a
    split
    · refine ih _ _ _ (stp_le hT) (Nat.le_trans h (lpN_mono w (fun q hq => ?_)))
      have h1 := hT q hq
      unfold stp
      rw [Nat.mul_succ]
      split
      · omega
      · omega
    · rfl
/-- the whole enumeration, with no leaving out -/
def fuW (H w : Nat) (M L Li : Nat → Nat) : Nat → (Nat → Nat) → (Nat → Nat) → Bool → acW → acW
  | 0, T, r, bad, a => if bad = true then a else takeW (lpN L 0 T w) r a
  | n + 1, T, r, bad, a => fo (fun p a' => fuW H w M L Li n (stp M L p T) (updN r (H - (n + 1)) p) (bad || !decide (stp M L p T p ≤ Li p)) a') w a
theorem fuW_s (H w : Nat) (M L Li : Nat → Nat) (n : Nat) (T r : Nat → Nat) (bad : Bool) (a : acW) : fuW H w M L Li (n + 1) T r bad a = fo (fun p a' => fuW H w M L Li n (stp M L p T) (updN r (H - (n + 1)) p) (bad || !decide (stp M L p T p ≤ Li p)) a') w a := by rw [fuW]
theorem fuW_0 (H w : Nat) (M L Li : Nat → Nat) (T r : Nat → Nat) (bad : Bool) (a : acW) : fuW H w M L Li 0 T r bad a = if bad = true then a else takeW (lpN L 0 T w) r a := by rw [fuW]
theorem fuW_bad {H w : Nat} {M L Li : Nat → Nat} : ∀ n T r a, fuW H w M L Li n T r true a = a := by
  intro n
  induction n with
  | zero => intro T r a; rw [fuW_0, if_pos rfl]
  | succ n ih =>
    intro T r a
    rw [fuW_s]
    exact fo_id w (fun p _ => ih _ _ _)
theorem fo_congr {g g' : Nat → acW → acW} : ∀ k a, (∀ p, p < k → ∀ a, g p a = g' p a) → fo g k a = fo g' k a := by
  intro k
  induction k with
  | zero => exact fun _ _ => rfl
  | succ k ih => intro a h; rw [fo_s, fo_s, ih a (fun p hp => h p (by omega)), h k (by omega)]
theorem fuW_ex {H w : Nat} {M L Li : Nat → Nat} : ∀ n T r a, fuW H w M L Li n T r false a = exW H w M L Li n T r a := by
  intro n
  induction n with
  | zero => intro T r a; rw [fuW_0, exW_0, if_neg Bool.false_ne_true]
  | succ n ih =>
    intro T r a
    rw [fuW_s, exW_s]
    refine fo_congr w a (fun p _ a' => ?_)
    show fuW H w M L Li n (stp M L p T) (updN r (H - (n + 1)) p) (false || !decide (stp M L p T p ≤ Li p)) a' = if stp M L p T p ≤ Li p then exW H w M L Li n (stp M L p T) (updN r (H - (n + 1)) p) a' else a'
    by_cases e : stp M L p T p ≤ Li p
    · rw [decide_eq_true e, if_pos e, Bool.not_true, Bool.false_or, ih]
    · rw [decide_eq_false e, if_neg e, Bool.not_false, Bool.false_or, fuW_bad]
/-- ends stay below 200 once one is taken -/
theorem exW_le {H w : Nat} {M L Li : Nat → Nat} : ∀ n T r a, (exW H w M L Li n T r a).1 ≤ a.1 := by
  have hfo : ∀ (g : Nat → acW → acW), (∀ p a, (g p a).1 ≤ a.1) → ∀ k a, (fo g k a).1 ≤ a.1 := by
    intro g hg k
    induction k with
    | zero => exact fun a => Nat.le_refl _
    | succ k ih => intro a; rw [fo_s]; exact Nat.le_trans (hg _ _) (ih a)
  intro n
  induction n with
  | zero =>
    intro T r a
    rw [exW_0]
    unfold takeW
    split
    · show lpN L 0 T w ≤ a.1
      omega
    · exact Nat.le_refl _
  | succ n ih =>
    intro T r a
    rw [exW_s]
    refine hfo _ (fun p a' => ?_) w a
    show (if stp M L p T p ≤ Li p then exW H w M L Li n (stp M L p T) (updN r (H - (n + 1)) p) a' else a').1 ≤ a'.1
    split
    · exact ih _ _ _
    · exact Nat.le_refl _
