/-! an hour on a row of nineteen numbers: what both sides do -/
theorem nodS_congr {set rung B B' : Int32} {mo le lim t mo' le' lim' t' : Nat → Int32} (hB : B = B') : ∀ p, (∀ q, q < p → mo q = mo' q ∧ le q = le' q ∧ lim q = lim' q ∧ t q = t' q) → nodS set rung B mo le lim t p = nodS set rung B' mo' le' lim' t' p := by
  subst hB
  intro p
  induction p with
  | zero => exact fun _ => rfl
  | succ p ih =>
    intro h
    obtain ⟨h1, h2, h3, h4⟩ := h p (by omega)
    unfold nodS
    rw [ih (fun q hq => h q (by omega)), h1, h2, h3, h4]
theorem upS_congr {set nods : Int32} {g g' : Nat → Int32} : ∀ p, (∀ q, q < p → g q = g' q) → upS set nods g p = upS set nods g' p := by
  intro p
  induction p with
  | zero => exact fun _ => rfl
  | succ p ih =>
    intro h
    unfold upS
    rw [ih (fun q hq => h q (by omega)), h p (by omega)]
def rN (w : Nat) (μ : aW) (set rung : Int32) (r : Nat → Int32) : Int32 := nodS set rung (μ 109 3) (μ 110) (μ 111) (μ 112) r w
def rU (w s : Nat) (μ : aW) (set rung : Int32) (r : Nat → Int32) : Int32 := upS set (rN w μ set rung r) (μ 113) s
def rW (w : Nat) (μ : aW) (set rung : Int32) (r : Nat → Int32) : Int32 := set &&& (rN w μ set rung r ^^^ (-1))
def rT (μ : aW) (set rung : Int32) (r : Nat → Int32) (q : Nat) : Int32 := tE set rung (μ 109 3) (μ 110 q) (μ 111 q) (r q) q
/-- an hour -/
def rowH (w s : Nat) (μ : aW) (set rung : Int32) (r : Nat → Int32) : Nat → Int32 := fun k =>
  if k < w then rT μ set rung r k else if k < 6 then r k else if k < 12 then (if k < 6 + w then r k + hB (rW w μ set rung r) (nI (k - 6)) else r k) else if k = 12 then r 12 + 1
  else if k = 13 then (if rW w μ set rung r = 0 then r 13 else mn 999999 (r 13 + μ 109 1)) else if k = 14 then mn 999999 (r 14 + μ 109 2 * bitN (rU w s μ set rung r) 8) else if k = 15 then rN w μ set rung r else if k = 16 then rU w s μ set rung r
  else if k = 17 then (if rW w μ set rung r = 0 then r 17 + 1 else r 17) else (if remI (r 12 + 1) (μ 109 0) = 0 then 0 else r 18)
/-- an hour of rest -/
def rowR (w : Nat) (μ : aW) (r : Nat → Int32) : Nat → Int32 := fun k =>
  if k < w then rT μ 0 0 r k else if k < 12 then r k else if k = 12 then r 12 + 1 else if k = 13 then r 13 else if k = 14 then r 14 else if k = 15 then 0 else if k = 16 then 0 else if k = 17 then r 17 else (if remI (r 12 + 1) (μ 109 0) = 0 then 0 else r 18)
def RokB (b w : Nat) (r : Nat → Int32) : Prop := (∀ p, p < w → bd 199 (r p)) ∧ (∃ h, h ≤ b ∧ r 12 = nI h ∧ ∀ p, p < 6 → bd h (r (6 + p))) ∧ ∀ p, w ≤ p → p < 6 → r (6 + p) = 0
theorem bd_mx0 {a b : Nat} (hb : b ≤ 1000) (ha : a ≤ 1000) : bd a (mx0 (nI a - nI b)) := by
  unfold mx0
  rcases Nat.lt_or_ge b a with h | h
  · rw [pk_sub (by omega)]
    split
    · exact ⟨a - b, by omega, rfl⟩
    · exact ⟨0, by omega, rfl⟩
  · have : ¬ (0 : Int32) < nI a - nI b := by
      rw [Int32.lt_iff_toInt_lt, pk_sub_toInt (by omega) (by omega)]
      simp; omega
    rw [if_neg this]
    exact ⟨0, by omega, rfl⟩
theorem bd_mn {a : Nat} (ha : a ≤ 100000) : bd 199 (mn 199 (nI a)) := by
  unfold mn
  rw [show (199 : Int32) = nI 199 from rfl]
  split
  · next h => rw [nilt (by omega) (by omega)] at h; exact ⟨a, by omega, rfl⟩
  · exact ⟨199, by omega, rfl⟩
theorem bd_tE {set rung B mo le t : Int32} {p : Nat} (hB : bd 20 B) (hm : bd 30 mo) (hl : bd 30 le) (ht : bd 199 t) : bd 199 (tE set rung B mo le t p) := by
  obtain ⟨b, hb, rfl⟩ := hB
  obtain ⟨m, hm, rfl⟩ := hm
  obtain ⟨e, he, rfl⟩ := hl
  obtain ⟨a, ha, rfl⟩ := ht
  unfold tE
  split
  · obtain ⟨n, h1, h2⟩ := bd_mx0 (a := a) (b := e) (by omega) (by omega)
    exact ⟨n, by omega, h2⟩
  · split
    · rw [nI_add]
      exact bd_mn (by omega)
    · obtain ⟨n, h1, h2⟩ := bd_mx0 (a := a) (b := b) (by omega) (by omega)
      rw [h2, nI_add]
      exact bd_mn (by omega)
theorem rowH_ok {h w s b : Nat} {μ σ : aW} {set rung : Int32} {r : Nat → Int32} (hk : KC h w s μ σ) (hb : b < 1000000) (hr : RokB b w r) : RokB (b + 1) w (rowH w s μ set rung r) := by
  obtain ⟨⟨-, -, hw⟩, -, -, ⟨-, -, hB, hB2⟩, hp, -⟩ := hk
  rw [hB] at hB2
  obtain ⟨h1, ⟨t, h2, h3, h4⟩, h5⟩ := hr
  refine ⟨fun p hp9 => ?_, ⟨t + 1, by omega, ?_, fun p hp9 => ?_⟩, fun p hp1 hp2 => ?_⟩
  · unfold rowH
    rw [if_pos hp9]
    obtain ⟨q1, q2, q3, q4, q5, q6⟩ := hp p hp9
    exact bd_tE hB2 (by rw [← q1]; exact q4) (by rw [← q2]; exact q5) (h1 p hp9)
  · unfold rowH
    rw [if_neg (by omega), if_neg (by omega), if_neg (by omega), if_pos rfl, h3, nI_1]
  · obtain ⟨n, n1, n2⟩ := h4 p hp9
    unfold rowH
    rw [if_neg (by omega), if_neg (by omega), if_pos (by omega)]
    split
    · rw [n2, hB_bit]
      rcases bit01 (rW w μ set rung r >>> (nI (6 + p - 6) &&& 31)) with e | e
      · rw [e, Int32.add_zero]; exact ⟨n, by omega, rfl⟩
      · rw [e, nI_1]; exact ⟨n + 1, by omega, rfl⟩
    · rw [n2]; exact ⟨n, by omega, rfl⟩
  · unfold rowH
    rw [if_neg (by omega), if_neg (by omega), if_pos (by omega), if_neg (by omega)]
    exact h5 p hp1 hp2
theorem rowR_ok {h w s b : Nat} {μ σ : aW} {r : Nat → Int32} (hk : KC h w s μ σ) (hb : b < 1000000) (hr : RokB b w r) : RokB (b + 1) w (rowR w μ r) := by
  obtain ⟨⟨-, -, hw⟩, -, -, ⟨-, -, hB, hB2⟩, hp, -⟩ := hk
  rw [hB] at hB2
  obtain ⟨h1, ⟨t, h2, h3, h4⟩, h5⟩ := hr
  refine ⟨fun p hp9 => ?_, ⟨t + 1, by omega, ?_, fun p hp9 => ?_⟩, fun p hp1 hp2 => ?_⟩
  · unfold rowR
    rw [if_pos hp9]
    obtain ⟨q1, q2, q3, q4, q5, q6⟩ := hp p hp9
    exact bd_tE hB2 (by rw [← q1]; exact q4) (by rw [← q2]; exact q5) (h1 p hp9)
  · unfold rowR
    rw [if_neg (by omega), if_neg (by omega), if_pos rfl, h3, nI_1]
  · obtain ⟨n, n1, n2⟩ := h4 p hp9
    unfold rowR
    rw [if_neg (by omega), if_pos (by omega), n2]
    exact ⟨n, by omega, rfl⟩
  · unfold rowR
    rw [if_neg (by omega), if_pos (by omega)]
    exact h5 p hp1 hp2
theorem hN_eq {h w s : Nat} {μ σ : aW} {set rung : Int32} {r : Nat → Int32} (hk : KC h w s μ σ) (hs : StR w σ 15 r) : hN w σ set rung = rN w μ set rung r := by
  obtain ⟨-, -, -, ⟨-, -, hB, -⟩, hp, -⟩ := hk
  unfold hN nS rN
  refine nodS_congr hB w (fun q hq => ?_)
  obtain ⟨q1, q2, q3, -⟩ := hp q hq
  exact ⟨q1, q2, q3, hs.1 q hq⟩
theorem hU_eq {h w s : Nat} {μ σ : aW} {set rung : Int32} {r : Nat → Int32} (hk : KC h w s μ σ) (hs : StR w σ 15 r) : hU w s σ set rung = rU w s μ set rung r := by
  unfold hU rU
  rw [hN_eq hk hs]
  exact upS_congr s (fun q hq => (hk.2.2.2.2.2 q hq).1)
theorem hW_eq {h w s : Nat} {μ σ : aW} {set rung : Int32} {r : Nat → Int32} (hk : KC h w s μ σ) (hs : StR w σ 15 r) : hW w σ set rung = rW w μ set rung r := by
  unfold hW rW
  rw [hN_eq hk hs]
theorem tR_eq {h w s : Nat} {μ σ : aW} {set rung : Int32} {r : Nat → Int32} (hk : KC h w s μ σ) (hs : StR w σ 15 r) {q : Nat} (hq : q < w) : tR σ 9 16 set rung q = rT μ set rung r q := by
  obtain ⟨-, -, -, ⟨-, -, hB, -⟩, hp, -⟩ := hk
  obtain ⟨q1, q2, q3, -⟩ := hp q hq
  unfold tR rT
  rw [hB, show σ (9 + 2) q = σ 11 q from rfl, show σ (9 + 3) q = σ 12 q from rfl, q1, q2, hs.1 q hq]
theorem hour_St {h w s m : Nat} {μ σ σ' : aW} {rung : Int32} {r : Nat → Int32} (hk : KC h w s μ σ) (hs : StR w σ 15 r) (hm : m < 2 ^ w) (hp : hourP w s σ (nI m) rung σ') : StR w σ' 15 (rowH w s μ (nI m) rung r) := by
  have hw6 : w ≤ 6 := hk.1.2.2
  obtain ⟨-, p1, p2, k0, k1, k2, k3, k4, k5, k6⟩ := hp
  have hW9 := hW_eq (set := nI m) (rung := rung) hk hs
  have hU9 := hU_eq (set := nI m) (rung := rung) hk hs
  have hN9 := hN_eq (set := nI m) (rung := rung) hk hs
  have s0 := hs.2.2 0 (by decide)
  have s1 := hs.2.2 1 (by decide)
  have s2 := hs.2.2 2 (by decide)
  have s5 := hs.2.2 5 (by decide)
  have s6 := hs.2.2 6 (by decide)
  refine ⟨fun p hp9 => ?_, fun p hp9 => ?_, fun k hk9 => ?_⟩
  · show σ' 16 p = _
    rw [p1 p hp9, tR_eq hk hs hp9]
    unfold rowH
    rw [if_pos hp9]
  · show σ' 17 p = _
    rw [p2 p hp9]
    unfold aw rowH
    rw [if_neg (by omega), if_neg (by omega), if_pos (by omega), hW9, show σ 17 p = r (6 + p) from hs.2.1 p hp9]
    by_cases hpw : p < w
    · rw [if_pos (by omega), hB_bit, Nat.add_sub_cancel_left]
    · rw [if_neg (by omega)]
      obtain ⟨k, hk1, hk2⟩ := sub_set hw6 hm (rN w μ (nI m) rung r ^^^ (-1))
      have : rW w μ (nI m) rung r = nI k := hk2
      rw [this, bit_hi w hw6 k hk1 p hp9 (by omega), Int32.add_zero]
  · obtain ⟨m2, m3, m4⟩ := upS_lt (nI m) (rN w μ (nI m) rung r) (μ 113) s (by have := hk.2.1.2.2; omega)
    have hu : bc (rU w s μ (nI m) rung r) = bitN (rU w s μ (nI m) rung r) 8 := by
      unfold rU
      rw [m4]
      refine bc_bits m2 ?_
      have : 2 ^ s ≤ 2 ^ 8 := Nat.pow_le_pow_right (by decide) hk.2.1.2.2
      omega
    have e1 : σ 9 1 = μ 109 1 := hk.2.2.2.1.1
    have e2 : σ 9 2 = μ 109 2 := hk.2.2.2.1.2.1
    have e0 : σ 9 0 = μ 109 0 := hk.2.2.1.2.1.trans hk.2.2.1.2.2.1.symm
    unfold rowH
    rw [if_neg (by omega), if_neg (by omega), if_neg (by omega)]
    rcases (show k = 0 ∨ k = 1 ∨ k = 2 ∨ k = 3 ∨ k = 4 ∨ k = 5 ∨ k = 6 by omega) with rfl | rfl | rfl | rfl | rfl | rfl | rfl
    · rw [k0, s0]; rfl
    · rw [k1, hW9, s1, e1]; rfl
    · rw [k2, hU9, hu, s2, e2]; rfl
    · rw [k3, hN9]; rfl
    · rw [k4, hU9]; rfl
    · rw [k5, hW9, s5]; rfl
    · rw [k6, s0, e0, s6]; rfl
theorem rest_St {h w s : Nat} {μ σ σ' : aW} {r : Nat → Int32} (hk : KC h w s μ σ) (hs : StR w σ 15 r) (hp : restP w σ σ') : StR w σ' 15 (rowR w μ r) := by
  have hw6 : w ≤ 6 := hk.1.2.2
  obtain ⟨hf, p1, k0, k1, k2, k3, k4, k5, k6⟩ := hp
  have s0 := hs.2.2 0 (by decide)
  have s1 := hs.2.2 1 (by decide)
  have s2 := hs.2.2 2 (by decide)
  have s5 := hs.2.2 5 (by decide)
  have s6 := hs.2.2 6 (by decide)
  refine ⟨fun p hp9 => ?_, fun p hp9 => ?_, fun k hk9 => ?_⟩
  · show σ' 16 p = _
    rw [p1 p hp9, tR_eq hk hs hp9]
    unfold rowR
    rw [if_pos hp9]
  · show σ' 17 p = _
    rw [hf 17 (by decide) (by decide)]
    unfold rowR
    rw [if_neg (by omega), if_pos (by omega)]
    exact hs.2.1 p hp9
  · have e0 : σ 9 0 = μ 109 0 := hk.2.2.1.2.1.trans hk.2.2.1.2.2.1.symm
    unfold rowR
    rw [if_neg (by omega), if_neg (by omega)]
    rcases (show k = 0 ∨ k = 1 ∨ k = 2 ∨ k = 3 ∨ k = 4 ∨ k = 5 ∨ k = 6 by omega) with rfl | rfl | rfl | rfl | rfl | rfl | rfl
    · rw [k0, s0]; rfl
    · rw [k1, s1]; rfl
    · rw [k2, s2]; rfl
    · rw [k3]; rfl
    · rw [k4]; rfl
    · rw [k5, s5]; rfl
    · rw [k6, s0, e0, s6]; rfl
/-- the reference's hour -/
theorem hourM {w s : Nat} {μ σ σ' : aW} {set rung : Int32} (hm : KM μ σ) (hw6 : w ≤ 6) (hp : mhP w s σ set rung σ') : ∀ k, k < 19 → σ' 114 k = rowH w s μ set rung (σ 114) k := by
  obtain ⟨-, p1, p2, p3, k0, k1, k2, k3, k4, k5, k6⟩ := hp
  have e3 : σ 109 3 = μ 109 3 := hm.1 3 (by decide)
  have e0 : σ 109 0 = μ 109 0 := hm.1 0 (by decide)
  have e1 : σ 109 1 = μ 109 1 := hm.1 1 (by decide)
  have e2 : σ 109 2 = μ 109 2 := hm.1 2 (by decide)
  have c0 : σ 110 = μ 110 := hm.2 110 (by decide) (by decide)
  have c1 : σ 111 = μ 111 := hm.2 111 (by decide) (by decide)
  have c2 : σ 112 = μ 112 := hm.2 112 (by decide) (by decide)
  have c3 : σ 113 = μ 113 := hm.2 113 (by decide) (by decide)
  have eN : mN w σ set rung = rN w μ set rung (σ 114) := by unfold mN mnS rN; rw [e3, c0, c1, c2]
  have eU : mU w s σ set rung = rU w s μ set rung (σ 114) := by unfold mU rU; rw [eN, c3]
  have eW : mW w σ set rung = rW w μ set rung (σ 114) := by unfold mW rW; rw [eN]
  intro k hk
  unfold rowH
  by_cases h1 : k < w
  · rw [if_pos h1, p1 k h1]
    unfold mtR rT
    rw [e3, c0, c1]
  · rw [if_neg h1]
    by_cases h2 : k < 6
    · rw [if_pos h2]
      exact (p3 k (by omega) h2).1
    · rw [if_neg h2]
      by_cases h3 : k < 12
      · rw [if_pos h3]
        obtain ⟨q, rfl⟩ : ∃ q, k = 6 + q := ⟨k - 6, by omega⟩
        by_cases h4 : q < w
        · rw [if_pos (by omega), p2 q h4, eW, Nat.add_sub_cancel_left]
        · rw [if_neg (by omega)]
          exact (p3 q (by omega) (by omega)).2
      · rw [if_neg h3]
        rcases (show k = 12 ∨ k = 13 ∨ k = 14 ∨ k = 15 ∨ k = 16 ∨ k = 17 ∨ k = 18 by omega) with rfl | rfl | rfl | rfl | rfl | rfl | rfl
        · rw [k0]; rfl
        · rw [k1, eW, e1]; rfl
        · rw [k2, eU, e2]; rfl
        · rw [k3, eN]; rfl
        · rw [k4, eU]; rfl
        · rw [k5, eW]; rfl
        · rw [k6, e0]; rfl
