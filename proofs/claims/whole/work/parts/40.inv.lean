/-! what holds between the class and the reference -/
def bd (B : Nat) (x : Int32) : Prop := ∃ n, n ≤ B ∧ x = nI n
def StR (w : Nat) (σ : aW) (a : Nat) (r : Nat → Int32) : Prop := (∀ p, p < w → σ (a + 1) p = r p) ∧ (∀ p, p < 6 → σ (a + 2) p = r (6 + p)) ∧ ∀ k, k < 7 → σ a k = r (12 + k)
def Rok (w : Nat) (r : Nat → Int32) : Prop := (∀ p, p < w → bd 199 (r p)) ∧ (∃ h, h ≤ 90060 ∧ r 12 = nI h ∧ ∀ p, p < 6 → bd h (r (6 + p))) ∧ ∀ p, w ≤ p → p < 6 → r (6 + p) = 0
/-- the class's contract (in σ) is the reference's (in μ) -/
def KC (h w s : Nat) (μ σ : aW) : Prop := (σ 9 4 = nI w ∧ μ 109 4 = nI w ∧ w ≤ 6) ∧ (σ 9 5 = nI s ∧ μ 109 8 = nI s ∧ s ≤ 8) ∧ (h ≤ 6 ∧ σ 9 0 = nI h ∧ μ 109 0 = nI h ∧ (h = 0 → w = 0 ∧ s = 0)) ∧ (σ 9 1 = μ 109 1 ∧ σ 9 2 = μ 109 2 ∧ σ 9 3 = μ 109 3 ∧ bd 20 (σ 9 3)) ∧ (∀ p, p < w → σ 11 p = μ 110 p ∧ σ 12 p = μ 111 p ∧ σ 13 p = μ 112 p ∧ bd 30 (σ 11 p) ∧ bd 30 (σ 12 p) ∧ bd 99 (σ 13 p)) ∧ ∀ q, q < s → σ 14 q = μ 113 q ∧ ∃ m, m < 2 ^ w ∧ σ 14 q = nI m
/-- the reference's contract in σ is that in μ -/
def KM (μ σ : aW) : Prop := (∀ k, k ≤ 8 → σ 109 k = μ 109 k) ∧ ∀ c, 110 ≤ c → c ≤ 113 → σ c = μ c
def KR (h w s : Nat) (σ : aW) : Prop := KC h w s σ σ
def HistC (w : Nat) (σ : aW) (n : Nat) (rows : Nat → Nat → Int32) : Prop := n ≤ 20 ∧ σ 18 0 = nI n ∧ ∃ x, x < 20 ∧ σ 18 1 = nI x ∧ ∀ j, j < n → StR w σ (20 + 3 * ((x + 20 - n + j) % 20)) (rows j)
def HistR (w : Nat) (σ : aW) : Prop := ∃ n, σ 109 26 = nI n ∧ HistC w σ n (fun j k => σ 122 (19 * j + k)) ∧ ∀ j, j < n → Rok w (fun k => σ 122 (19 * j + k))
def ImgR (w : Nat) (σ : aW) : Prop := ∀ i, i < 2 → σ 83 i = σ 131 i ∧ (σ 131 i = 0 ∨ (σ 131 i = 1 ∧ StR w σ (84 + 3 * i) (fun k => σ 130 (20 * i + k)) ∧ σ 82 i = σ 130 (20 * i + 19) ∧ ¬ σ 82 i < 0 ∧ Rok w (fun k => σ 130 (20 * i + k))))
def SeedR (σ : aW) : Prop := σ 90 0 = σ 109 11 ∧ ¬ σ 90 0 < 0
def SeenR (s : Nat) (σ : aW) : Prop := ∃ n, n ≤ 8 ∧ σ 103 0 = nI n ∧ σ 109 32 = nI n ∧ ∀ j, j < n → σ 104 j = σ 126 j ∧ (∃ q, q < s ∧ σ 104 j = nI q) ∧ σ 105 j = σ 127 j ∧ (σ 105 j = 0 ∨ σ 105 j = 1)
def BookR (w : Nat) (σ : aW) : Prop := ∃ n, n ≤ 15 ∧ σ 106 0 = nI n ∧ σ 109 35 = nI n ∧ ∀ j, j < n → σ 107 j = σ 128 j ∧ (∃ q, q < w ∧ σ 107 j = nI q) ∧ σ 108 j = σ 129 j
def TextR (σ : aW) : Prop := σ 1 2 = σ 109 14 ∧ ∃ n, n ≤ 220 ∧ σ 1 1 = nI n ∧ σ 109 13 = nI n ∧ ∀ j, j < n → σ 8 j = σ 115 j ∧ bd 255 (σ 8 j)
def Inv (σ : aW) : Prop := ∃ h w s, KR h w s σ ∧ (StR w σ 15 (σ 114) ∧ Rok w (σ 114)) ∧ HistR w σ ∧ ImgR w σ ∧ SeedR σ ∧ SeenR s σ ∧ BookR w σ ∧ TextR σ
theorem StR.congr {w : Nat} {σ σ' : aW} {a b : Nat} {r r' : Nat → Int32} (h : StR w σ a r) (h0 : ∀ k, k < 7 → σ' b k = σ a k) (h1 : ∀ k, k < 6 → σ' (b + 1) k = σ (a + 1) k) (h2 : ∀ k, k < 6 → σ' (b + 2) k = σ (a + 2) k) (hw : w ≤ 6) (hr : ∀ k, k < 19 → r' k = r k) : StR w σ' b r' := by
  refine ⟨fun p hp => ?_, fun p hp => ?_, fun k hk => ?_⟩
  · rw [h1 p (by omega), h.1 p hp, hr p (by omega)]
  · rw [h2 p hp, h.2.1 p hp, hr _ (by omega)]
  · rw [h0 k hk, h.2.2 k hk, hr _ (by omega)]
theorem StR.same {w : Nat} {σ σ' : aW} {a : Nat} {r : Nat → Int32} (h : StR w σ a r) (h0 : σ' a = σ a) (h1 : σ' (a + 1) = σ (a + 1)) (h2 : σ' (a + 2) = σ (a + 2)) : StR w σ' a r := by
  unfold StR
  rw [h0, h1, h2]
  exact h
theorem Rok.congr {w : Nat} {r r' : Nat → Int32} (h : Rok w r) (hw : w ≤ 6) (hr : ∀ k, k < 19 → r' k = r k) : Rok w r' := by
  obtain ⟨h1, ⟨t, h2, h3, h4⟩, h5⟩ := h
  refine ⟨fun p hp => ?_, ⟨t, h2, ?_, fun p hp => ?_⟩, fun p hp hp6 => ?_⟩
  · rw [hr p (by omega)]; exact h1 p hp
  · rw [hr 12 (by omega)]; exact h3
  · rw [hr _ (by omega)]; exact h4 p hp
  · rw [hr _ (by omega)]; exact h5 p hp hp6
theorem KC.congr {h w s : Nat} {μ σ σ' : aW} (hk : KC h w s μ σ) (hc : ∀ c, 9 ≤ c → c ≤ 14 → σ' c = σ c) : KC h w s μ σ' := by
  unfold KC
  rw [hc 9 (by decide) (by decide), hc 11 (by decide) (by decide), hc 12 (by decide) (by decide), hc 13 (by decide) (by decide), hc 14 (by decide) (by decide)]
  exact hk
theorem KC.to {h w s : Nat} {μ μ' σ : aW} (hk : KC h w s μ σ) (hm : KM μ μ') : KC h w s μ' σ := by
  unfold KC
  rw [hm.1 0 (by decide), hm.1 1 (by decide), hm.1 2 (by decide), hm.1 3 (by decide), hm.1 4 (by decide), hm.1 8 (by decide), hm.2 110 (by decide) (by decide), hm.2 111 (by decide) (by decide), hm.2 112 (by decide) (by decide), hm.2 113 (by decide) (by decide)]
  exact hk
theorem KM.congr {μ σ σ' : aW} (hm : KM μ σ) (h9 : ∀ k, k ≤ 8 → σ' 109 k = σ 109 k) (hc : ∀ c, 110 ≤ c → c ≤ 113 → σ' c = σ c) : KM μ σ' := ⟨fun k hk => (h9 k hk).trans (hm.1 k hk), fun c h1 h2 => (hc c h1 h2).trans (hm.2 c h1 h2)⟩
theorem KM.rf (μ : aW) : KM μ μ := ⟨fun _ _ => rfl, fun _ _ _ => rfl⟩
theorem KR.congr {h w s : Nat} {σ σ' : aW} (hk : KR h w s σ) (hc : ∀ c, 9 ≤ c → c ≤ 14 → σ' c = σ c) (hm : ∀ c, 110 ≤ c → c ≤ 113 → σ' c = σ c) (h9 : ∀ k, k ≤ 8 → σ' 109 k = σ 109 k) : KR h w s σ' := (KC.congr hk hc).to ((KM.rf σ).congr h9 hm)
theorem HistC.congr {w n : Nat} {σ σ' : aW} {rows rows' : Nat → Nat → Int32} (hh : HistC w σ n rows) (hc : ∀ c, 18 ≤ c → c < 80 → σ' c = σ c) (hw : w ≤ 6) (hr : ∀ j k, j < n → k < 19 → rows' j k = rows j k) : HistC w σ' n rows' := by
  obtain ⟨h1, h2, x, h3, h4, h5⟩ := hh
  refine ⟨h1, by rw [hc 18 (by decide) (by decide)]; exact h2, x, h3, by rw [hc 18 (by decide) (by decide)]; exact h4, fun j hj => ?_⟩
  have hm : (x + 20 - n + j) % 20 < 20 := Nat.mod_lt _ (by decide)
  generalize hi : (x + 20 - n + j) % 20 = i at hm
  have := h5 j hj
  rw [hi] at this
  exact this.congr (fun k _ => by rw [hc _ (by omega) (by omega)]) (fun k _ => by rw [hc _ (by omega) (by omega)]) (fun k _ => by rw [hc _ (by omega) (by omega)]) hw (fun k hk => hr j k hj hk)
theorem HistR.congr {w : Nat} {σ σ' : aW} (hh : HistR w σ) (hc : ∀ c, 18 ≤ c → c < 80 → σ' c = σ c) (hw : w ≤ 6) (h26 : σ' 109 26 = σ 109 26) (hp : σ' 122 = σ 122) : HistR w σ' := by
  obtain ⟨n, h1, h2, h3⟩ := hh
  unfold HistR
  rw [h26, hp]
  exact ⟨n, h1, h2.congr hc hw (fun _ _ _ _ => rfl), h3⟩
theorem ImgR.congr {w : Nat} {σ σ' : aW} (hh : ImgR w σ) (hc : ∀ c, 80 ≤ c → c < 90 → σ' c = σ c) (h130 : σ' 130 = σ 130) (h131 : σ' 131 = σ 131) : ImgR w σ' := by
  intro i hi
  unfold StR
  rw [h130, h131, hc 83 (by decide) (by decide), hc 82 (by decide) (by decide), hc (84 + 3 * i) (by omega) (by omega), hc (84 + 3 * i + 1) (by omega) (by omega), hc (84 + 3 * i + 2) (by omega) (by omega)]
  exact hh i hi
theorem SeedR.congr {σ σ' : aW} (hh : SeedR σ) (hc : σ' 90 = σ 90) (h11 : σ' 109 11 = σ 109 11) : SeedR σ' := by
  unfold SeedR
  rw [hc, h11]
  exact hh
theorem SeenR.congr {s : Nat} {σ σ' : aW} (hh : SeenR s σ) (hc : ∀ c, 103 ≤ c → c ≤ 105 → σ' c = σ c) (h32 : σ' 109 32 = σ 109 32) (h126 : σ' 126 = σ 126) (h127 : σ' 127 = σ 127) : SeenR s σ' := by
  unfold SeenR
  rw [hc 103 (by decide) (by decide), hc 104 (by decide) (by decide), hc 105 (by decide) (by decide), h32, h126, h127]
  exact hh
theorem BookR.congr {w : Nat} {σ σ' : aW} (hh : BookR w σ) (hc : ∀ c, 106 ≤ c → c ≤ 108 → σ' c = σ c) (h35 : σ' 109 35 = σ 109 35) (h128 : σ' 128 = σ 128) (h129 : σ' 129 = σ 129) : BookR w σ' := by
  unfold BookR
  rw [hc 106 (by decide) (by decide), hc 107 (by decide) (by decide), hc 108 (by decide) (by decide), h35, h128, h129]
  exact hh
theorem TextR.congr {σ σ' : aW} (hh : TextR σ) (h1 : σ' 1 = σ 1) (h8 : σ' 8 = σ 8) (h13 : σ' 109 13 = σ 109 13) (h14 : σ' 109 14 = σ 109 14) (h115 : σ' 115 = σ 115) : TextR σ' := by
  unfold TextR
  rw [h1, h8, h13, h14, h115]
  exact hh
/-! indices: a watcher, a sleeper, a set; both sides say the same -/
theorem wat (x : Int32) {w : Nat} (hw : w ≤ 6) : (∃ n, n < w ∧ x = nI n) ∨ ((if x < 0 then (0 : Int32) else if nI w ≤ x then 0 else if 6 ≤ x then 0 else 1) = 0 ∧ inB x.toInt64 0 (nI w - 1).toInt64 = 0) := by
  have e1 : (nI w - 1).toInt = (w : Int) - 1 := by
    rw [show (1 : Int32) = nI 1 from rfl]
    exact pk_sub_toInt (by omega) (by omega)
  by_cases h0 : x < 0
  · refine Or.inr ⟨by rw [if_pos h0], ?_⟩
    unfold inB
    rw [if_pos]
    rw [Int64.lt_iff_toInt_lt, Int32.toInt_toInt64]
    exact Int32.lt_iff_toInt_lt.mp h0
  · by_cases h1 : nI w ≤ x
    · refine Or.inr ⟨by rw [if_neg h0, if_pos h1], ?_⟩
      unfold inB
      by_cases h2 : x.toInt64 < 0
      · rw [if_pos h2]
      · rw [if_neg h2, if_pos]
        rw [Int64.lt_iff_toInt_lt, Int32.toInt_toInt64, Int32.toInt_toInt64, e1]
        have := Int32.le_iff_toInt_le.mp h1
        rw [nI_toInt (by omega)] at this
        omega
    · obtain ⟨j, hj, rfl⟩ := nI_of h0
      refine Or.inl ⟨j, ?_, rfl⟩
      rw [nI_leI (by omega) hj] at h1
      omega
theorem wat1 {n w : Nat} (h : n < w) (hw : w ≤ 6) : (if nI n < 0 then (0 : Int32) else if nI w ≤ nI n then 0 else if 6 ≤ nI n then 0 else 1) = 1 ∧ inB (nI n).toInt64 0 (nI w - 1).toInt64 = 1 := by
  have e1 : (nI w - 1).toInt = (w : Int) - 1 := by
    rw [show (1 : Int32) = nI 1 from rfl]
    exact pk_sub_toInt (by omega) (by omega)
  refine ⟨?_, ?_⟩
  · rw [if_neg (nI_pos (by omega)), if_neg (by rw [nile (by omega) (by omega)]; omega), if_neg (by rw [show (6 : Int32) = nI 6 from rfl, nile (by omega) (by omega)]; omega)]
  · unfold inB
    rw [if_neg, if_neg]
    · rw [Int64.lt_iff_toInt_lt, Int32.toInt_toInt64, Int32.toInt_toInt64, e1, nI_toInt (by omega)]
      omega
    · rw [Int64.lt_iff_toInt_lt, Int32.toInt_toInt64, nI_toInt (by omega)]
      simp
/-! sets -/
theorem ev6 : ∀ w, w ≤ 6 → (1 : Int32) <<< (nI w &&& 31) - 1 = nI (2 ^ w - 1) := by decide +kernel
theorem and_split (x M : Int32) : x = (x &&& M) ||| (x &&& (M ^^^ (-1))) := by
  apply Int32.toBitVec_inj.mp
  apply BitVec.eq_of_getLsbD_eq
  intro i hi
  have h1 : (-1 : Int32).toBitVec = BitVec.allOnes 32 := by decide
  simp only [Int32.toBitVec_or, Int32.toBitVec_and, Int32.toBitVec_xor, h1, BitVec.getLsbD_or, BitVec.getLsbD_and, BitVec.getLsbD_xor, BitVec.getLsbD_allOnes, hi, decide_true]
  cases x.toBitVec.getLsbD i <;> cases M.toBitVec.getLsbD i <;> rfl
theorem and_ev (x : Int32) {w : Nat} (hw : w ≤ 6) : ∃ m, m < 2 ^ w ∧ x &&& nI (2 ^ w - 1) = nI m := by
  refine pk_andE x w ?_
  rw [pk_tn]
  have : 2 ^ w ≤ 2 ^ 6 := Nat.pow_le_pow_right (by decide) hw
  omega
theorem set_no : ∀ w, w ≤ 6 → ∀ m, m < 2 ^ w → nI m &&& (nI (2 ^ w - 1) ^^^ (-1)) = 0 ∧ nI m &&& nI (2 ^ w - 1) = nI m := by decide +kernel
theorem setc (x : Int32) {w : Nat} (hw : w ≤ 6) : (∃ m, m < 2 ^ w ∧ x = nI m) ∨ (¬ x &&& (((1 : Int32) <<< (nI w &&& 31) - 1) ^^^ (-1)) = 0 ∧ inB x.toInt64 0 ((1 : Int32) <<< (nI w &&& 31) - 1).toInt64 = 0) := by
  rw [ev6 w hw]
  have hp : 2 ^ w ≤ 2 ^ 6 := Nat.pow_le_pow_right (by decide) hw
  have hp1 : 1 ≤ 2 ^ w := Nat.one_le_two_pow
  by_cases h : x &&& (nI (2 ^ w - 1) ^^^ (-1)) = 0
  · obtain ⟨m, h1, h2⟩ := and_ev x hw
    refine Or.inl ⟨m, h1, ?_⟩
    rw [and_split x (nI (2 ^ w - 1)), h, h2]
    simp
  · refine Or.inr ⟨h, ?_⟩
    unfold inB
    by_cases h2 : x.toInt64 < 0
    · rw [if_pos h2]
    · rw [if_neg h2, if_pos]
      rw [Int64.lt_iff_toInt_lt, Int32.toInt_toInt64, Int32.toInt_toInt64, nI_toInt (by omega)]
      rw [Int64.lt_iff_toInt_lt, Int32.toInt_toInt64] at h2
      have h3 : ¬ x < 0 := by rw [Int32.lt_iff_toInt_lt]; exact h2
      obtain ⟨j, hj, rfl⟩ := nI_of h3
      rw [nI_toInt hj]
      rcases Nat.lt_or_ge j (2 ^ w) with q | q
      · exact absurd (set_no w hw j q).1 h
      · omega
theorem setc1 {m w : Nat} (hw : w ≤ 6) (hm : m < 2 ^ w) : nI m &&& (((1 : Int32) <<< (nI w &&& 31) - 1) ^^^ (-1)) = 0 ∧ inB (nI m).toInt64 0 ((1 : Int32) <<< (nI w &&& 31) - 1).toInt64 = 1 := by
  have hp : 2 ^ w ≤ 2 ^ 6 := Nat.pow_le_pow_right (by decide) hw
  rw [ev6 w hw]
  refine ⟨(set_no w hw m hm).1, ?_⟩
  unfold inB
  rw [if_neg, if_neg]
  · rw [Int64.lt_iff_toInt_lt, Int32.toInt_toInt64, Int32.toInt_toInt64, nI_toInt (by omega), nI_toInt (by omega)]
    omega
  · rw [Int64.lt_iff_toInt_lt, Int32.toInt_toInt64, nI_toInt (by omega)]
    simp
theorem sub_set {m w : Nat} (hw : w ≤ 6) (hm : m < 2 ^ w) (y : Int32) : ∃ k, k < 2 ^ w ∧ nI m &&& y = nI k := by
  obtain ⟨k, h1, h2⟩ := and_ev (nI m &&& y) hw
  refine ⟨k, h1, ?_⟩
  rw [← h2, Int32.and_assoc, Int32.and_comm y, ← Int32.and_assoc, (set_no w hw m hm).2]
theorem bit_hi : ∀ w, w ≤ 6 → ∀ m, m < 2 ^ w → ∀ p, p < 6 → w ≤ p → (nI m >>> (nI p &&& 31)) &&& 1 = 0 := by decide +kernel
theorem hB_bit (x : Int32) (p : Nat) : hB x (nI p) = (x >>> (nI p &&& 31)) &&& 1 := by
  unfold hB
  rcases bit01 (x >>> (nI p &&& 31)) with h | h <;> rw [h] <;> decide
theorem or_bit : ∀ p, p < 8 → ∀ m, m < 2 ^ p → nI m ||| ((1 : Int32) <<< (nI p &&& 31)) = nI (m + 2 ^ p) := by decide +kernel
theorem nodS_lt (set rung B : Int32) (mo le lim t : Nat → Int32) : ∀ p, p ≤ 8 → ∃ m, m < 2 ^ p ∧ nodS set rung B mo le lim t p = nI m := by
  intro p
  induction p with
  | zero => exact fun _ => ⟨0, by decide, rfl⟩
  | succ p ih =>
    intro hp
    obtain ⟨m, h1, h2⟩ := ih (by omega)
    have h3 : 2 ^ (p + 1) = 2 ^ p + 2 ^ p := by rw [Nat.pow_succ]; omega
    unfold nodS
    split
    · exact ⟨m, by omega, h2⟩
    · split
      · exact ⟨m, by omega, h2⟩
      · exact ⟨m + 2 ^ p, by omega, by rw [h2, or_bit p (by omega) m h1]⟩
theorem upS_lt (set nods : Int32) (g : Nat → Int32) : ∀ p, p ≤ 8 → ∃ m, m < 2 ^ p ∧ upS set nods g p = nI m := by
  intro p
  induction p with
  | zero => exact fun _ => ⟨0, by decide, rfl⟩
  | succ p ih =>
    intro hp
    obtain ⟨m, h1, h2⟩ := ih (by omega)
    have h3 : 2 ^ (p + 1) = 2 ^ p + 2 ^ p := by rw [Nat.pow_succ]; omega
    unfold upS
    by_cases hc : (if g p &&& set = 0 then set else g p &&& set) &&& (nods ^^^ (-1)) = 0
    · rw [if_pos hc]
      exact ⟨m + 2 ^ p, by omega, by rw [h2, or_bit p (by omega) m h1]⟩
    · rw [if_neg hc]
      exact ⟨m, by omega, h2⟩
theorem bc_bits : ∀ m, m < 256 → bc (nI m) = bitN (nI m) 8 := by decide +kernel
