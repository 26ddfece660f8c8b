/-! what holds between the class and the reference -/
def bd (B : Nat) (x : Int32) : Prop := ∃ n, n ≤ B ∧ x = nI n
def StR (w : Nat) (σ : aW) (a : Nat) (r : Nat → Int32) : Prop := (∀ p, p < w → σ (a + 1) p = r p) ∧ (∀ p, p < 6 → σ (a + 2) p = r (6 + p)) ∧ ∀ k, k < 7 → σ a k = r (12 + k)
def Rok (w : Nat) (r : Nat → Int32) : Prop := (∀ p, p < w → bd 199 (r p)) ∧ (∃ h, h ≤ 90060 ∧ r 12 = nI h ∧ ∀ p, p < 6 → bd h (r (6 + p))) ∧ ∀ p, w ≤ p → p < 6 → r (6 + p) = 0
def KR (h w s : Nat) (σ : aW) : Prop := (σ 9 4 = nI w ∧ σ 109 4 = nI w ∧ w ≤ 6) ∧ (σ 9 5 = nI s ∧ σ 109 8 = nI s ∧ s ≤ 8) ∧ (h ≤ 6 ∧ σ 9 0 = nI h ∧ σ 109 0 = nI h ∧ (h = 0 → w = 0 ∧ s = 0)) ∧ (σ 9 1 = σ 109 1 ∧ σ 9 2 = σ 109 2 ∧ σ 9 3 = σ 109 3 ∧ bd 20 (σ 9 3)) ∧ (∀ p, p < w → σ 11 p = σ 110 p ∧ σ 12 p = σ 111 p ∧ σ 13 p = σ 112 p ∧ bd 30 (σ 11 p) ∧ bd 30 (σ 12 p) ∧ bd 99 (σ 13 p)) ∧ ∀ q, q < s → σ 14 q = σ 113 q ∧ ∃ m, m < 2 ^ w ∧ σ 14 q = nI m
def HistC (w : Nat) (σ : aW) (n : Nat) (rows : Nat → Nat → Int32) : Prop := n ≤ 20 ∧ σ 18 0 = nI n ∧ ∃ x, x < 20 ∧ σ 18 1 = nI x ∧ ∀ j, j < n → StR w σ (20 + 3 * ((x + 20 - n + j) % 20)) (rows j)
def HistR (w : Nat) (σ : aW) : Prop := ∃ n, σ 109 26 = nI n ∧ HistC w σ n (fun j k => σ 122 (19 * j + k)) ∧ ∀ j, j < n → Rok w (fun k => σ 122 (19 * j + k))
def ImgR (w : Nat) (σ : aW) : Prop := ∀ i, i < 2 → σ 83 i = σ 131 i ∧ (σ 131 i = 0 ∨ (σ 131 i = 1 ∧ StR w σ (84 + 3 * i) (fun k => σ 130 (20 * i + k)) ∧ σ 82 i = σ 130 (20 * i + 19) ∧ ¬ σ 82 i < 0 ∧ Rok w (fun k => σ 130 (20 * i + k))))
def SeedR (σ : aW) : Prop := σ 90 0 = σ 109 11 ∧ ¬ σ 90 0 < 0
def SeenR (s : Nat) (σ : aW) : Prop := ∃ n, n ≤ 8 ∧ σ 103 0 = nI n ∧ σ 109 32 = nI n ∧ ∀ j, j < n → σ 104 j = σ 126 j ∧ (∃ q, q < s ∧ σ 104 j = nI q) ∧ σ 105 j = σ 127 j ∧ (σ 105 j = 0 ∨ σ 105 j = 1)
def BookR (w : Nat) (σ : aW) : Prop := ∃ n, n ≤ 15 ∧ σ 106 0 = nI n ∧ σ 109 35 = nI n ∧ ∀ j, j < n → σ 107 j = σ 128 j ∧ (∃ q, q < w ∧ σ 107 j = nI q) ∧ σ 108 j = σ 129 j
def TextR (σ : aW) : Prop := σ 1 2 = σ 109 14 ∧ ∃ n, n ≤ 220 ∧ σ 1 1 = nI n ∧ σ 109 13 = nI n ∧ ∀ j, j < n → σ 8 j = σ 115 j ∧ bd 255 (σ 8 j)
def Inv (σ : aW) : Prop := ∃ h w s, KR h w s σ ∧ (StR w σ 15 (σ 114) ∧ Rok w (σ 114)) ∧ HistR w σ ∧ ImgR w σ ∧ SeedR σ ∧ SeenR s σ ∧ BookR w σ ∧ TextR σ
theorem StR.congr {w : Nat} {σ σ' : aW} {a b : Nat} {r r' : Nat → Int32} (h : StR w σ a r) (h0 : ∀ k, k < 7 → σ' b k = σ a k) (h1 : ∀ k, k < 6 → σ' (b + 1) k = σ (a + 1) k) (h2 : ∀ k, k < 6 → σ' (b + 2) k = σ (a + 2) k) (hw : w ≤ 6) (hr : ∀ k, k < 19 → r' k = r k) : StR w σ' b r' := by
  refine ⟨fun p hp => ?_, fun p hp => ?_, fun k hk => ?_⟩
  · rw [h1 p (by omega), h.1 p hp, hr p (by omega)]
  · rw [h2 p hp, h.2.1 p hp, hr _ (by omega)]
  · rw [h0 k hk, h.2.2 k hk, hr _ (by omega)]
theorem StR.same {w : Nat} {σ σ' : aW} {a : Nat} {r : Nat → Int32} (h : StR w σ a r) (h0 : σ' a = σ a) (h1 : σ' (a + 1) = σ (a + 1)) (h2 : σ' (a + 2) = σ (a + 2)) : StR w σ' a r := by
  unfold StR
  rw [h0, h1, h2]
  exact h
theorem Rok.congr {w : Nat} {r r' : Nat → Int32} (h : Rok w r) (hw : w ≤ 6) (hr : ∀ k, k < 19 → r' k = r k) : Rok w r' := by
  obtain ⟨h1, ⟨t, h2, h3, h4⟩, h5⟩ := h
  refine ⟨fun p hp => ?_, ⟨t, h2, ?_, fun p hp => ?_⟩, fun p hp hp6 => ?_⟩
  · rw [hr p (by omega)]; exact h1 p hp
  · rw [hr 12 (by omega)]; exact h3
  · rw [hr _ (by omega)]; exact h4 p hp
  · rw [hr _ (by omega)]; exact h5 p hp hp6
theorem KR.congr {h w s : Nat} {σ σ' : aW} (hk : KR h w s σ) (hc : ∀ c, 9 ≤ c → c ≤ 14 → σ' c = σ c) (hm : ∀ c, 110 ≤ c → c ≤ 113 → σ' c = σ c) (h9 : ∀ k, k ≤ 8 → σ' 109 k = σ 109 k) : KR h w s σ' := by
  unfold KR
  rw [hc 9 (by decide) (by decide), hc 11 (by decide) (by decide), hc 12 (by decide) (by decide), hc 13 (by decide) (by decide), hc 14 (by decide) (by decide), hm 110 (by decide) (by decide), hm 111 (by decide) (by decide), hm 112 (by decide) (by decide), hm 113 (by decide) (by decide), h9 0 (by decide), h9 1 (by decide), h9 2 (by decide), h9 3 (by decide), h9 4 (by decide), h9 8 (by decide)]
  exact hk
theorem HistC.congr {w n : Nat} {σ σ' : aW} {rows rows' : Nat → Nat → Int32} (hh : HistC w σ n rows) (hc : ∀ c, 18 ≤ c → c < 80 → σ' c = σ c) (hw : w ≤ 6) (hr : ∀ j k, j < n → k < 19 → rows' j k = rows j k) : HistC w σ' n rows' := by
  obtain ⟨h1, h2, x, h3, h4, h5⟩ := hh
  refine ⟨h1, by rw [hc 18 (by decide) (by decide)]; exact h2, x, h3, by rw [hc 18 (by decide) (by decide)]; exact h4, fun j hj => ?_⟩
  have hm : (x + 20 - n + j) % 20 < 20 := Nat.mod_lt _ (by decide)
  generalize hi : (x + 20 - n + j) % 20 = i at hm
  have := h5 j hj
  rw [hi] at this
  exact this.congr (fun k _ => by rw [hc _ (by omega) (by omega)]) (fun k _ => by rw [hc _ (by omega) (by omega)]) (fun k _ => by rw [hc _ (by omega) (by omega)]) hw (fun k hk => hr j k hj hk)
theorem HistR.congr {w : Nat} {σ σ' : aW} (hh : HistR w σ) (hc : ∀ c, 18 ≤ c → c < 80 → σ' c = σ c) (hw : w ≤ 6) (h26 : σ' 109 26 = σ 109 26) (hp : σ' 122 = σ 122) : HistR w σ' := by
  obtain ⟨n, h1, h2, h3⟩ := hh
  unfold HistR
  rw [h26, hp]
  exact ⟨n, h1, h2.congr hc hw (fun _ _ _ _ => rfl), h3⟩
theorem ImgR.congr {w : Nat} {σ σ' : aW} (hh : ImgR w σ) (hc : ∀ c, 80 ≤ c → c < 90 → σ' c = σ c) (h130 : σ' 130 = σ 130) (h131 : σ' 131 = σ 131) : ImgR w σ' := by
  intro i hi
  unfold StR
  rw [h130, h131, hc 83 (by decide) (by decide), hc 82 (by decide) (by decide), hc (84 + 3 * i) (by omega) (by omega), hc (84 + 3 * i + 1) (by omega) (by omega), hc (84 + 3 * i + 2) (by omega) (by omega)]
  exact hh i hi
theorem SeedR.congr {σ σ' : aW} (hh : SeedR σ) (hc : σ' 90 = σ 90) (h11 : σ' 109 11 = σ 109 11) : SeedR σ' := by
  unfold SeedR
  rw [hc, h11]
  exact hh
theorem SeenR.congr {s : Nat} {σ σ' : aW} (hh : SeenR s σ) (hc : ∀ c, 103 ≤ c → c ≤ 105 → σ' c = σ c) (h32 : σ' 109 32 = σ 109 32) (h126 : σ' 126 = σ 126) (h127 : σ' 127 = σ 127) : SeenR s σ' := by
  unfold SeenR
  rw [hc 103 (by decide) (by decide), hc 104 (by decide) (by decide), hc 105 (by decide) (by decide), h32, h126, h127]
  exact hh
theorem BookR.congr {w : Nat} {σ σ' : aW} (hh : BookR w σ) (hc : ∀ c, 106 ≤ c → c ≤ 108 → σ' c = σ c) (h35 : σ' 109 35 = σ 109 35) (h128 : σ' 128 = σ 128) (h129 : σ' 129 = σ 129) : BookR w σ' := by
  unfold BookR
  rw [hc 106 (by decide) (by decide), hc 107 (by decide) (by decide), hc 108 (by decide) (by decide), h35, h128, h129]
  exact hh
theorem TextR.congr {σ σ' : aW} (hh : TextR σ) (h1 : σ' 1 = σ 1) (h8 : σ' 8 = σ 8) (h13 : σ' 109 13 = σ 109 13) (h14 : σ' 109 14 = σ 109 14) (h115 : σ' 115 = σ 115) : TextR σ' := by
  unfold TextR
  rw [h1, h8, h13, h14, h115]
  exact hh
/-! indices: a watcher, a sleeper, a set; both sides say the same -/
theorem wat (x : Int32) {w : Nat} (hw : w ≤ 6) : (∃ n, n < w ∧ x = nI n) ∨ ((if x < 0 then (0 : Int32) else if nI w ≤ x then 0 else if 6 ≤ x then 0 else 1) = 0 ∧ inB x.toInt64 0 (nI w - 1).toInt64 = 0) := by
  have e1 : (nI w - 1).toInt = (w : Int) - 1 := by
    rw [show (1 : Int32) = nI 1 from rfl]
    exact pk_sub_toInt (by omega) (by omega)
  by_cases h0 : x < 0
  · refine Or.inr ⟨by rw [if_pos h0], ?_⟩
    unfold inB
    rw [if_pos]
    rw [Int64.lt_iff_toInt_lt, Int32.toInt_toInt64]
    exact Int32.lt_iff_toInt_lt.mp h0
  · by_cases h1 : nI w ≤ x
    · refine Or.inr ⟨by rw [if_neg h0, if_pos h1], ?_⟩
      unfold inB
      by_cases h2 : x.toInt64 < 0
      · rw [if_pos h2]
      · rw [if_neg h2, if_pos]
        rw [Int64.lt_iff_toInt_lt, Int32.toInt_toInt64, Int32.toInt_toInt64, e1]
        have := Int32.le_iff_toInt_le.mp h1
        rw [nI_toInt (by omega)] at this
        omega
    · obtain ⟨j, hj, rfl⟩ := nI_of h0
      refine Or.inl ⟨j, ?_, rfl⟩
      rw [nI_leI (by omega) hj] at h1
      omega
theorem wat1 {n w : Nat} (h : n < w) (hw : w ≤ 6) : (if nI n < 0 then (0 : Int32) else if nI w ≤ nI n then 0 else if 6 ≤ nI n then 0 else 1) = 1 ∧ inB (nI n).toInt64 0 (nI w - 1).toInt64 = 1 := by
  have e1 : (nI w - 1).toInt = (w : Int) - 1 := by
    rw [show (1 : Int32) = nI 1 from rfl]
    exact pk_sub_toInt (by omega) (by omega)
  refine ⟨?_, ?_⟩
  · rw [if_neg (nI_pos (by omega)), if_neg (by rw [nile (by omega) (by omega)]; omega), if_neg (by rw [show (6 : Int32) = nI 6 from rfl, nile (by omega) (by omega)]; omega)]
  · unfold inB
    rw [if_neg, if_neg]
    · rw [Int64.lt_iff_toInt_lt, Int32.toInt_toInt64, Int32.toInt_toInt64, e1, nI_toInt (by omega)]
      omega
    · rw [Int64.lt_iff_toInt_lt, Int32.toInt_toInt64, nI_toInt (by omega)]
      simp
