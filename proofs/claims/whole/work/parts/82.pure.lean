/-! the clauses of a text as numbers: a draft (numbers, hours, watchers, sleepers) and a step (place, code, where) -/
abbrev dT := (Nat → Nat → Int32) × Nat × Nat × Nat
def r4 (tx : Nat → Int32) (n : Nat) (lo a b c e : Int32) (t : rS) : rS := rd tx n 0 e (rd tx n 0 c (rd tx n 0 b (rd tx n lo a t)))
def clT (tx : Nat → Int32) (n : Nat) (D : dT) (t : rS) : rS := if wdF (hrF tx n t.1) D.2.1 D.2.2.1 D.2.2.2 = 0 then (if hrF tx n t.1 = 107 then rdE tx n (r4 tx n 1 6 99 99 20 (t.1 + 1, 0, t.2.2)) else if hrF tx n t.1 = 112 then rdE tx n (r4 tx n 0 99 30 30 99 (t.1 + 1, 0, t.2.2)) else rdE tx n (rd tx n 0 (nI (2 ^ D.2.2.1 - 1)) (t.1 + 1, 0, t.2.2))) else (t.1, wdF (hrF tx n t.1) D.2.1 D.2.2.1 D.2.2.2, nI t.1)
def nD (tx : Nat → Int32) (n : Nat) (D : dT) (u : rS) : dT := (su (su (su (su D.1 2 0 (rdV tx n 1 u)) 2 1 (rdV tx n 0 (rd tx n 1 6 u))) 2 2 (rdV tx n 0 (rd tx n 0 99 (rd tx n 1 6 u)))) 2 3 (rdV tx n 0 (rd tx n 0 99 (rd tx n 0 99 (rd tx n 1 6 u)))), (rdV tx n 1 u).toNatClampNeg, D.2.2.1, D.2.2.2)
def pD (tx : Nat → Int32) (n : Nat) (D : dT) (u : rS) : dT := (su (su (su (su D.1 3 D.2.2.1 (rdV tx n 0 u)) 4 D.2.2.1 (rdV tx n 0 (rd tx n 0 99 u))) 5 D.2.2.1 (rdV tx n 0 (rd tx n 0 30 (rd tx n 0 99 u)))) 6 D.2.2.1 (rdV tx n 0 (rd tx n 0 30 (rd tx n 0 30 (rd tx n 0 99 u)))), D.2.1, D.2.2.1 + 1, D.2.2.2)
def sD (tx : Nat → Int32) (n : Nat) (D : dT) (u : rS) : dT := (su D.1 7 D.2.2.2 (rdV tx n 0 u), D.2.1, D.2.2.1, D.2.2.2 + 1)
def clD (tx : Nat → Int32) (n : Nat) (D : dT) (t : rS) : dT := if hrF tx n t.1 = 107 then nD tx n D (t.1 + 1, 0, t.2.2) else if hrF tx n t.1 = 112 then pD tx n D (t.1 + 1, 0, t.2.2) else sD tx n D (t.1 + 1, 0, t.2.2)
def rdT (tx : Nat → Int32) (n : Nat) : Nat → dT → rS → dT × rS
  | 0, D, t => (D, t)
  | f + 1, D, t => if t.1 < n ∧ t.2.1 = 0 then rdT tx n f (clD tx n D t) (sk tx n (clT tx n D t).1, (clT tx n D t).2) else (D, t)
theorem rdT_0 (tx : Nat → Int32) (n : Nat) (D : dT) (t : rS) : rdT tx n 0 D t = (D, t) := by rw [rdT]
theorem rdT_s (tx : Nat → Int32) (n f : Nat) (D : dT) (t : rS) : rdT tx n (f + 1) D t = if t.1 < n ∧ t.2.1 = 0 then rdT tx n f (clD tx n D t) (sk tx n (clT tx n D t).1, (clT tx n D t).2) else (D, t) := by rw [rdT]
/-- what a draft without a fault is -/
def DOK (D : dT) : Prop := (D.2.1 ≤ 6 ∧ D.2.2.1 ≤ 6 ∧ D.2.2.2 ≤ 8) ∧ (D.2.1 = 0 → D.2.2.1 = 0 ∧ D.2.2.2 = 0) ∧ (D.1 2 0 = nI D.2.1 ∧ bd 20 (D.1 2 3)) ∧ (∀ p, p < D.2.2.1 → bd 99 (D.1 3 p) ∧ bd 30 (D.1 4 p) ∧ bd 30 (D.1 5 p) ∧ bd 99 (D.1 6 p)) ∧ ∀ q, q < D.2.2.2 → ∃ m, m < 2 ^ D.2.2.1 ∧ D.1 7 q = nI m
theorem rd_0 {tx : Nat → Int32} {n : Nat} {lo hi : Int32} {t : rS} (h : (rd tx n lo hi t).2.1 = 0) : t.2.1 = 0 ∧ ¬ rdV tx n lo t < lo ∧ ¬ hi < rdV tx n lo t := by
  by_cases e : t.2.1 = 0
  · refine ⟨e, ?_⟩
    unfold rd at h
    rw [if_pos e] at h
    have h : nC tx n t.1 lo hi = 0 := h
    unfold rdV
    rw [if_pos e]
    unfold nC at h
    by_cases k : nK tx n t.1 = 0
    · rw [if_pos k] at h
      exact absurd h (by decide)
    · rw [if_neg k] at h
      by_cases k2 : 3 < nK tx n t.1 ∨ nV tx n t.1 < lo ∨ hi < nV tx n t.1
      · rw [if_pos k2] at h
        exact absurd h (by decide)
      · exact ⟨fun c => k2 (Or.inr (Or.inl c)), fun c => k2 (Or.inr (Or.inr c))⟩
  · unfold rd at h
    rw [if_neg e] at h
    exact absurd h e
theorem rdE_0 {tx : Nat → Int32} {n : Nat} {t : rS} (h : (rdE tx n t).2.1 = 0) : t.2.1 = 0 := by
  by_cases e : t.2.1 = 0
  · exact e
  · unfold rdE at h
    rw [if_neg e] at h
    exact absurd h e
theorem bd_of {b : Nat} {x : Int32} (hb : b ≤ 1000) (h0 : ¬ x < 0) (h1 : ¬ nI b < x) : bd b x := by
  obtain ⟨j, hj, rfl⟩ := nI_of h0
  refine ⟨j, ?_, rfl⟩
  rw [nI_ltI (by omega) hj] at h1
  omega
theorem wdF_0 {x : Int32} {h w s : Nat} (e : wdF x h w s = 0) : (x = 107 ∧ h = 0) ∨ (¬ x = 107 ∧ x = 112 ∧ ¬ h = 0 ∧ w < 6) ∨ (¬ x = 107 ∧ ¬ x = 112 ∧ x = 115 ∧ ¬ h = 0 ∧ s < 8) := by
  unfold wdF at e
  by_cases a : x = 107
  · rw [if_pos a] at e
    by_cases b : h = 0
    · exact Or.inl ⟨a, b⟩
    · rw [if_neg b] at e
      exact absurd e (by decide)
  · rw [if_neg a] at e
    by_cases b : h = 0
    · rw [if_pos b] at e
      exact absurd e (by decide)
    · rw [if_neg b] at e
      by_cases c : x = 112
      · rw [if_pos c] at e
        by_cases f : w < 6
        · exact Or.inr (Or.inl ⟨a, c, b, f⟩)
        · rw [if_neg f] at e
          exact absurd e (by decide)
      · rw [if_neg c] at e
        by_cases g : x = 115
        · rw [if_pos g] at e
          by_cases f : s < 8
          · exact Or.inr (Or.inr ⟨a, c, g, b, f⟩)
          · rw [if_neg f] at e
            exact absurd e (by decide)
        · rw [if_neg g] at e
          exact absurd e (by decide)
theorem r4_0 {tx : Nat → Int32} {n : Nat} {lo a b c e : Int32} {t : rS} (h : (r4 tx n lo a b c e t).2.1 = 0) : (rd tx n lo a t).2.1 = 0 ∧ (rd tx n 0 b (rd tx n lo a t)).2.1 = 0 ∧ (rd tx n 0 c (rd tx n 0 b (rd tx n lo a t))).2.1 = 0 := by
  have h3 := (rd_0 h).1
  have h2 := (rd_0 h3).1
  exact ⟨(rd_0 h2).1, h2, h3⟩
theorem DOK.step {tx : Nat → Int32} {n : Nat} {D : dT} {t : rS} (hD : DOK D) (h : (clT tx n D t).2.1 = 0) : DOK (clD tx n D t) := by
  obtain ⟨δ, hh, w, s⟩ := D
  obtain ⟨⟨d1, d2, d3⟩, d4, ⟨d5, d6⟩, d7, d8⟩ := hD
  dsimp only at d1 d2 d3 d4 d5 d6 d7 d8
  unfold clT at h
  dsimp only at h
  unfold clD
  by_cases e : wdF (hrF tx n t.1) hh w s = 0
  · rw [if_pos e] at h
    rcases wdF_0 e with ⟨e1, e2⟩ | ⟨e1, e2, e3, e4⟩ | ⟨e1, e2, e3, e4, e5⟩
    · rw [if_pos e1] at h ⊢
      have r := rdE_0 h
      obtain ⟨q1, q2, q3⟩ := r4_0 r
      have v1 := (rd_0 q1).2
      have v4 := (rd_0 r).2
      obtain ⟨z1, z2⟩ := d4 e2
      subst z1
      subst z2
      have p0 : ¬ rdV tx n 1 (t.1 + 1, 0, t.2.2) < 0 := fun c => v1.1 (Int32.lt_trans c (by decide))
      obtain ⟨j, hj, ej⟩ := nI_of p0
      have hj6 : j ≤ 6 := by
        have := v1.2
        rw [ej, show (6 : Int32) = nI 6 from rfl, nI_ltI (by omega) hj] at this
        omega
      have hj1 : 1 ≤ j := by
        have := v1.1
        rw [ej, show (1 : Int32) = nI 1 from rfl, nI_ltI hj (by omega)] at this
        omega
      have ec : (rdV tx n 1 (t.1 + 1, 0, t.2.2)).toNatClampNeg = j := by rw [ej]; exact nic (by omega)
      unfold nD DOK
      dsimp only
      rw [ec]
      refine ⟨⟨hj6, by decide, by decide⟩, fun c => absurd c (by omega), ⟨?_, ?_⟩, fun p hp => absurd hp (Nat.not_lt_zero p), fun q hq => absurd hq (Nat.not_lt_zero q)⟩
      · simp only [su_at, ne_eq, Nat.reduceEqDiff, not_false_eq_true, if_false, if_true]
        first | exact ej | (simp; exact ej)
      · rw [su_at, if_pos rfl]
        exact bd_of (by decide) v4.1 v4.2
    · rw [if_neg e1, if_pos e2] at h ⊢
      have r := rdE_0 h
      obtain ⟨q1, q2, q3⟩ := r4_0 r
      have v1 := (rd_0 q1).2
      have v2 := (rd_0 q2).2
      have v3 := (rd_0 q3).2
      have v4 := (rd_0 r).2
      unfold pD DOK
      dsimp only
      refine ⟨⟨d1, by omega, d3⟩, fun c => absurd c e3, ⟨?_, ?_⟩, fun p hp => ?_, fun q hq => ?_⟩
      · rw [su_ne (by decide), su_ne (by decide), su_ne (by decide), su_ne (by decide)]; exact d5
      · rw [su_ne (by decide), su_ne (by decide), su_ne (by decide), su_ne (by decide)]; exact d6
      · rw [su_ne (show (3 : Nat) ≠ 6 by decide), su_ne (show (3 : Nat) ≠ 5 by decide), su_ne (show (3 : Nat) ≠ 4 by decide), su_at, su_ne (show (4 : Nat) ≠ 6 by decide), su_ne (show (4 : Nat) ≠ 5 by decide), su_at, su_ne (show (4 : Nat) ≠ 3 by decide), su_ne (show (5 : Nat) ≠ 6 by decide), su_at, su_ne (show (5 : Nat) ≠ 4 by decide), su_ne (show (5 : Nat) ≠ 3 by decide), su_at, su_ne (show (6 : Nat) ≠ 5 by decide), su_ne (show (6 : Nat) ≠ 4 by decide), su_ne (show (6 : Nat) ≠ 3 by decide)]
        by_cases ep : p = w
        · rw [if_pos ep, if_pos ep, if_pos ep, if_pos ep]
          exact ⟨bd_of (by decide) v1.1 v1.2, bd_of (by decide) v2.1 v2.2, bd_of (by decide) v3.1 v3.2, bd_of (by decide) v4.1 v4.2⟩
        · rw [if_neg ep, if_neg ep, if_neg ep, if_neg ep]
          exact d7 p (by omega)
      · rw [su_ne (by decide), su_ne (by decide), su_ne (by decide), su_ne (by decide)]
        obtain ⟨m, m1, m2⟩ := d8 q hq
        exact ⟨m, by rw [Nat.pow_succ]; omega, m2⟩
    · rw [if_neg e1, if_neg e2] at h ⊢
      have r := rdE_0 h
      have v1 := (rd_0 r).2
      unfold sD DOK
      dsimp only
      refine ⟨⟨d1, d2, by omega⟩, fun c => absurd c e4, ⟨?_, ?_⟩, fun p hp => ?_, fun q hq => ?_⟩
      · rw [su_ne (by decide)]; exact d5
      · rw [su_ne (by decide)]; exact d6
      · rw [su_ne (by decide), su_ne (by decide), su_ne (by decide), su_ne (by decide)]; exact d7 p hp
      · rw [su_at]
        by_cases eq : q = s
        · rw [if_pos eq]
          have hp2 : 2 ^ w ≤ 2 ^ 6 := Nat.pow_le_pow_right (by decide) d2
          have hp1 : 1 ≤ 2 ^ w := Nat.one_le_two_pow
          obtain ⟨m, m1, m2⟩ := bd_of (b := 2 ^ w - 1) (by omega) v1.1 v1.2
          exact ⟨m, by omega, m2⟩
        · rw [if_neg eq]
          exact d8 q (by omega)
  · rw [if_neg e] at h
    exact absurd h e
/-! places -/
theorem skF_id {tx : Nat → Int32} {n : Nat} : ∀ f p, p + f = n → ¬ (skF tx n f p < n ∧ tx (skF tx n f p) = 32) := by
  intro f
  induction f with
  | zero =>
    intro p hp c
    have : skF tx n 0 p = p := by rw [skF]
    rw [this] at c
    omega
  | succ f ih =>
    intro p hp
    rw [skF_s]
    by_cases e : p < n ∧ tx p = 32
    · rw [if_pos e]; exact ih (p + 1) (by omega)
    · rw [if_neg e]; exact e
theorem sk_sk {tx : Nat → Int32} {n p : Nat} (hp : p ≤ n) : sk tx n (sk tx n p) = sk tx n p := by
  have h := skF_id (tx := tx) (n := n) (n - p) p (by omega)
  have h : ¬ (sk tx n p < n ∧ tx (sk tx n p) = 32) := h
  generalize sk tx n p = q at h
  unfold sk
  cases n - q with
  | zero => rw [skF]
  | succ f => rw [skF_s, if_neg h]
theorem rdE_le {tx : Nat → Int32} {n : Nat} {t : rS} (hp : t.1 ≤ n) : t.1 ≤ (rdE tx n t).1 ∧ (rdE tx n t).1 ≤ n := by
  obtain ⟨g1, g2⟩ := sk_le (tx := tx) hp
  unfold rdE
  split
  · split
    · rename_i c
      have : sk tx n t.1 < n := by
        by_cases e : sk tx n t.1 < n
        · exact e
        · unfold hrF at c
          rw [if_neg e] at c
          exact absurd c (by decide)
      exact ⟨by show t.1 ≤ sk tx n t.1 + 1; omega, this⟩
    · exact ⟨g1, g2⟩
  · exact ⟨Nat.le_refl _, hp⟩
theorem rd_ge {tx : Nat → Int32} {n : Nat} {t : rS} (hp : t.1 ≤ n) (lo hi : Int32) : t.1 ≤ (rd tx n lo hi t).1 := by
  unfold rd
  split
  · exact (nE_le hp).1
  · exact Nat.le_refl _
theorem r4_le {tx : Nat → Int32} {n : Nat} {lo a b c e : Int32} {t : rS} (hp : t.1 ≤ n) : t.1 ≤ (r4 tx n lo a b c e t).1 ∧ (r4 tx n lo a b c e t).1 ≤ n := by
  have g1 := rd_ge (tx := tx) hp lo a
  have k1 := rd_le (tx := tx) hp lo a
  have g2 := rd_ge (tx := tx) k1 0 b
  have k2 := rd_le (tx := tx) k1 0 b
  have g3 := rd_ge (tx := tx) k2 0 c
  have k3 := rd_le (tx := tx) k2 0 c
  have g4 := rd_ge (tx := tx) k3 0 e
  have k4 := rd_le (tx := tx) k3 0 e
  unfold r4
  exact ⟨by omega, k4⟩
theorem clT_le {tx : Nat → Int32} {n : Nat} {D : dT} {t : rS} (hp : t.1 < n) : (clT tx n D t).1 ≤ n ∧ ((clT tx n D t).2.1 = 0 → t.1 + 1 ≤ (clT tx n D t).1) := by
  have hp1 : ((t.1 + 1, 0, t.2.2) : rS).1 ≤ n := hp
  unfold clT
  split
  · split
    · have h1 := r4_le (tx := tx) (lo := 1) (a := 6) (b := 99) (c := 99) (e := 20) hp1
      have h2 := rdE_le (tx := tx) h1.2
      exact ⟨h2.2, fun _ => Nat.le_trans h1.1 h2.1⟩
    · split
      · have h1 := r4_le (tx := tx) (lo := 0) (a := 99) (b := 30) (c := 30) (e := 99) hp1
        have h2 := rdE_le (tx := tx) h1.2
        exact ⟨h2.2, fun _ => Nat.le_trans h1.1 h2.1⟩
      · have h1 := rd_ge (tx := tx) hp1 0 (nI (2 ^ D.2.2.1 - 1))
        have h2 := rdE_le (tx := tx) (rd_le (tx := tx) hp1 0 (nI (2 ^ D.2.2.1 - 1)))
        exact ⟨h2.2, fun _ => Nat.le_trans h1 h2.1⟩
  · rename_i c
    exact ⟨Nat.le_of_lt hp, fun e => absurd e c⟩
/-! the same text -/
theorem r4_congr {tx tx' : Nat → Int32} {n : Nat} (h : ∀ j, j < n → tx j = tx' j) {t : rS} (hp : t.1 ≤ n) (lo a b c e : Int32) : r4 tx n lo a b c e t = r4 tx' n lo a b c e t := by
  have k1 := rd_le (tx := tx') hp lo a
  have k2 := rd_le (tx := tx') k1 0 b
  have k3 := rd_le (tx := tx') k2 0 c
  unfold r4
  rw [rd_congr h hp, rd_congr h k1, rd_congr h k2, rd_congr h k3]
theorem clT_congr {tx tx' : Nat → Int32} {n : Nat} (h : ∀ j, j < n → tx j = tx' j) {t : rS} (hp : t.1 < n) (D : dT) : clT tx n D t = clT tx' n D t := by
  have hp1 : ((t.1 + 1, 0, t.2.2) : rS).1 ≤ n := hp
  unfold clT
  rw [hrF_congr h t.1, r4_congr h hp1, r4_congr h hp1, rd_congr h hp1, rdE_congr h, rdE_congr h, rdE_congr h]
theorem clD_congr {tx tx' : Nat → Int32} {n : Nat} (h : ∀ j, j < n → tx j = tx' j) {t : rS} (hp : t.1 < n) (D : dT) : clD tx n D t = clD tx' n D t := by
  have hp1 : ((t.1 + 1, 0, t.2.2) : rS).1 ≤ n := hp
  unfold clD nD pD sD
  have k1 := rd_le (tx := tx') hp1 1 6
  have k2 := rd_le (tx := tx') k1 0 99
  have k3 := rd_le (tx := tx') k2 0 99
  have l1 := rd_le (tx := tx') hp1 0 99
  have l2 := rd_le (tx := tx') l1 0 30
  have l3 := rd_le (tx := tx') l2 0 30
  rw [hrF_congr h t.1, rd_congr h hp1 1 6, rd_congr h k1 0 99, rd_congr h k2 0 99, rd_congr h hp1 0 99, rd_congr h l1 0 30, rd_congr h l2 0 30, rdV_congr h hp1 1, rdV_congr h k1, rdV_congr h k2, rdV_congr h k3, rdV_congr h hp1 0, rdV_congr h l1, rdV_congr h l2, rdV_congr h l3]
theorem rdT_congr {tx tx' : Nat → Int32} {n : Nat} (h : ∀ j, j < n → tx j = tx' j) : ∀ f D t, rdT tx n f D t = rdT tx' n f D t := by
  intro f
  induction f with
  | zero => intro D t; rw [rdT_0, rdT_0]
  | succ f ih =>
    intro D t
    rw [rdT_s, rdT_s]
    by_cases e : t.1 < n ∧ t.2.1 = 0
    · rw [if_pos e, if_pos e, clT_congr h e.1, clD_congr h e.1, sk_congr h, ih]
    · rw [if_neg e, if_neg e]
theorem rdT_ok {tx : Nat → Int32} {n : Nat} : ∀ f D t, DOK D → (rdT tx n f D t).2.2.1 = 0 → DOK (rdT tx n f D t).1 := by
  intro f
  induction f with
  | zero => intro D t hD _; rw [rdT_0]; exact hD
  | succ f ih =>
    intro D t hD h
    rw [rdT_s] at h ⊢
    by_cases e : t.1 < n ∧ t.2.1 = 0
    · rw [if_pos e] at h ⊢
      by_cases ec : (clT tx n D t).2.1 = 0
      · exact ih _ _ (hD.step ec) h
      · have stop : ∀ g D' (t' : rS), ¬ t'.2.1 = 0 → rdT tx n g D' t' = (D', t') := by
          intro g D' t' c
          cases g with
          | zero => rw [rdT_0]
          | succ g => rw [rdT_s, if_neg (fun q => c q.2)]
        rw [stop f (clD tx n D t) (sk tx n (clT tx n D t).1, (clT tx n D t).2) ec] at h
        exact absurd h ec
    · rw [if_neg e]; exact hD
theorem rdT_stop {tx : Nat → Int32} {n f : Nat} {D : dT} {t : rS} (h : n ≤ t.1 ∨ ¬ t.2.1 = 0) : rdT tx n f D t = (D, t) := by
  cases f with
  | zero => rw [rdT_0]
  | succ f =>
    rw [rdT_s, if_neg]
    rintro ⟨h1, h2⟩
    rcases h with c | c
    · omega
    · exact c h2
