/-! the best watches: the model's enumeration -/
def mwS (β : aW) (H : Nat) (τ : aW) (r : Nat → Nat) (a : acW) : Prop := (∀ c, c ≠ 109 → c ≠ 124 → c ≠ 125 → τ c = β c) ∧ (∀ k, k ≠ 31 → τ 109 k = β 109 k) ∧ (∀ j, j < H → τ 124 j = nI (r j)) ∧ τ 109 31 = (if a.1 = 200 then -1 else nI a.1) ∧ (a.1 = 200 ∨ ∀ j, j < H → τ 125 j = nI (a.2 j))
def mwB (β : aW) (H w : Nat) (M L Li T : Nat → Nat) : Prop := (β 109 4 = nI w ∧ w ≤ 6) ∧ (β 109 0 = nI H ∧ H ≤ 6) ∧ (∀ q, q < w → β 110 q = nI (M q) ∧ M q ≤ 30) ∧ (∀ q, q < w → β 111 q = nI (L q) ∧ L q ≤ 30) ∧ (∀ q, q < w → β 112 q = nI (Li q) ∧ Li q ≤ 99) ∧ (∀ q, q < w → β 114 q = nI (T q) ∧ T q ≤ 199) ∧ ∀ q, q < 6 → β 123 q = β 114 q
section WA
variable {l : Launch} {d : Nat} {σ : aW}
theorem fw_copy {Q : Option Value → aW → Prop} {H : Nat} {t2 : Option Int32} (hH : σ 109 0 = nI H) (hH6 : H ≤ 6) (hk : aE l (d + 4) none 10 cX10_findWatches none Q 104 [some (.ref 109), some (.int 1), ti t2, ti (some (nI H))] [] (sr σ 125 (pre H (σ 124) (σ 125)))) : ∀ j k, k + j = H → aE l (d + 4) none 10 cX10_findWatches none Q 78 [some (.ref 109), some (.int 1), ti t2, some (.int (nI k))] [] (sr σ 125 (pre k (σ 124) (σ 125))) := by
  intro j
  induction j with
  | zero =>
    intro k hkn
    have hkn : k = H := by omega
    subst hkn
    have e1 : nI k ≤ nI k := (nile (by omega) (by omega)).mpr (Nat.le_refl _)
    rw [eX10_findWatches_78]
    simp only [eX10_findWatches_79, eX10_findWatches_80, eX10_findWatches_83, fx0, fx1, fx2, fx3, fx4, nl_int, nl_ref, nl_none, nl_ti, rz_nil, rz_int, rz_ref, rz_long, cf1, cf2, Option.toList_some, Option.toList_none, List.cons_append, List.nil_append, su_at, su_ne, sr_eq, sr_ne, ne_eq, Nat.reduceEqDiff, not_false_eq_true, not_true_eq_false, if_true, if_false, hH, e1, if_true]
    exact hk
  | succ j ih =>
    intro k hkn
    have e1 : ¬ nI H ≤ nI k := by rw [nile (by omega) (by omega)]; omega
    have hin : vp_in (nI k) 6 := vin (by omega) (by omega)
    have hcl : (nI k).toNatClampNeg = k := nic (by omega)
    rw [eX10_findWatches_78]
    simp only [eX10_findWatches_79, eX10_findWatches_80, eX10_findWatches_83, eX10_findWatches_86, eX10_findWatches_87, eX10_findWatches_90, eX10_findWatches_91, eX10_findWatches_92, eX10_findWatches_95, eX10_findWatches_96, eX10_findWatches_97, eX10_findWatches_98, eX10_findWatches_101, fx0, fx1, fx2, fx3, fx4, nl_int, nl_ref, nl_none, nl_ti, rz_nil, rz_int, rz_ref, rz_long, cf1, cf2, Option.toList_some, Option.toList_none, List.cons_append, List.nil_append, su_at, su_ne, sr_eq, sr_ne, ne_eq, Nat.reduceEqDiff, not_false_eq_true, not_true_eq_false, if_true, if_false, hH, e1, if_false, hin, hcl, nI_1, true_and, pre_step (h := σ 124) rfl]
    exact ih (k + 1) (by omega)
theorem fw_eval {Q : Option Value → aW → Prop} {β τ : aW} {H w : Nat} {M L Li T r : Nat → Nat} {a : acW} {t2 t3 : Option Int32} (hβ : mwB β H w M L Li T) (hτ : mwS β H τ r a) (ha : a.1 ≤ 200) (hr : ∀ j, j < H → r j < w)
    (hK : ∀ τ' t2 t3, mwS β H τ' r (if wB M L Li r T H = true then a else takeW (lpN L 0 (wT M L r T H) w) r a) → aE l (d + 4) none 10 cX10_findWatches none Q 104 [some (.ref 109), some (.int 1), ti t2, ti t3] [] τ') : aE l (d + 4) none 10 cX10_findWatches none Q 47 [some (.ref 109), some (.int 1), ti t2, ti t3] [] τ := by
  obtain ⟨⟨b1, b2⟩, ⟨b3, b4⟩, b5, b6, b7, b8, b9⟩ := hβ
  have hτ0 := hτ
  obtain ⟨s1, s2, s3, s4, s5⟩ := hτ
  have x110 := s1 110 (by decide) (by decide) (by decide)
  have x111 := s1 111 (by decide) (by decide) (by decide)
  have x112 := s1 112 (by decide) (by decide) (by decide)
  have x114 := s1 114 (by decide) (by decide) (by decide)
  have x123 := s1 123 (by decide) (by decide) (by decide)
  simp only [eX10_findWatches_47, eX10_findWatches_48, fx0, fx1, fx2, fx3, fx4, nl_int, nl_ref, nl_none, nl_ti, rz_nil, rz_int, rz_ref, rz_long, cf1, cf2, Option.toList_some, Option.toList_none, List.cons_append, List.nil_append]
  refine aC.of (m_behindRow (d := d + 1) (H := H) (w := w) (M := M) (L := L) (Li := Li) (T := T) (r := r) (by rw [s2 4 (by decide)]; exact b1) b2 (by rw [s2 0 (by decide)]; exact b3) b4 (by rw [x110]; exact b5) (by rw [x111]; exact b6) (by rw [x112]; exact b7) (by rw [x114]; exact b8) (by rw [x114, x123]; exact b9) (fun j hj => ⟨s3 j hj, hr j hj⟩)) ?_
  by_cases e : wB M L Li r T H = true
  · rw [if_pos e] at hK ⊢
    simp only [eX10_findWatches_51, eX10_findWatches_52, eX10_findWatches_53, fx0, fx1, fx2, fx3, fx4, nl_int, nl_ref, nl_none, nl_ti, rz_nil, rz_int, rz_ref, rz_long, cf1, cf2, Option.toList_some, Option.toList_none, List.cons_append, List.nil_append, show (-1 : Int32) < 0 by decide, if_true]
    exact hK τ (some (-1)) t3 hτ0
  · rw [if_neg e] at hK ⊢
    have hE := lpN_le (L := L) (n := 0) (T := wT M L r T H) w (wT_le (fun q hq => (b8 q hq).2) H)
    generalize lpN L 0 (wT M L r T H) w = E at hK hE ⊢
    have h0 : ¬ nI E < 0 := nI_pos (by omega)
    have take : E < a.1 → aE l (d + 4) none 10 cX10_findWatches none Q 71 [some (.ref 109), some (.int 1), some (.int (nI E)), ti t3] [] τ := by
      intro hlt
      simp only [eX10_findWatches_71, eX10_findWatches_72, eX10_findWatches_73, eX10_findWatches_76, eX10_findWatches_77, fx0, fx1, fx2, fx3, fx4, nl_int, nl_ref, nl_none, nl_ti, rz_nil, rz_int, rz_ref, rz_long, cf1, cf2, Option.toList_some, Option.toList_none, List.cons_append, List.nil_append]
      have c0 : (su τ 109 31 (nI E)) 109 0 = nI H := by rw [su_at, if_neg (by decide), s2 0 (by decide)]; exact b3
      have hc := fw_copy (l := l) (d := d) (σ := su τ 109 31 (nI E)) (Q := Q) (t2 := some (nI E)) c0 b4 ?_ H 0 (by omega)
      · rw [pre_0, sr_self] at hc
        exact hc
      · refine hK _ (some (nI E)) (some (nI H)) ?_
        unfold takeW
        rw [if_pos hlt]
        refine ⟨fun c c1 c2 c3 => ?_, fun k hk => ?_, fun j hj => ?_, ?_, Or.inr (fun j hj => ?_)⟩
        · rw [sr_ne c3, su_ne c1]
          exact s1 c c1 c2 c3
        · rw [sr_ne (by decide), su_at, if_neg hk]
          exact s2 k hk
        · rw [sr_ne (by decide), su_ne (by decide)]
          exact s3 j hj
        · rw [sr_ne (by decide), su_at, if_pos rfl]
          show nI E = if E = 200 then -1 else nI E
          rw [if_neg (by omega)]
        · rw [sr_eq]
          unfold pre
          rw [if_pos hj, su_ne (by decide)]
          exact s3 j hj
    simp only [eX10_findWatches_51, eX10_findWatches_52, eX10_findWatches_53, eX10_findWatches_56, eX10_findWatches_57, fx0, fx1, fx2, fx3, fx4, nl_int, nl_ref, nl_none, nl_ti, rz_nil, rz_int, rz_ref, rz_long, cf1, cf2, Option.toList_some, Option.toList_none, List.cons_append, List.nil_append, h0, if_false]
    rw [s4]
    by_cases e2 : a.1 = 200
    · rw [if_pos e2]
      simp only [eX10_findWatches_60, fx0, fx1, fx2, fx3, fx4, nl_int, nl_ref, nl_none, nl_ti, rz_nil, rz_int, rz_ref, rz_long, cf1, cf2, Option.toList_some, Option.toList_none, List.cons_append, List.nil_append, show (-1 : Int32) < 0 by decide, if_true]
      exact take (by omega)
    · have h1 : ¬ nI a.1 < 0 := nI_pos (by omega)
      rw [if_neg e2]
      rw [if_neg e2] at s4
      simp only [eX10_findWatches_60, eX10_findWatches_63, eX10_findWatches_64, eX10_findWatches_65, fx0, fx1, fx2, fx3, fx4, nl_int, nl_ref, nl_none, nl_ti, rz_nil, rz_int, rz_ref, rz_long, cf1, cf2, Option.toList_some, Option.toList_none, List.cons_append, List.nil_append, h1, if_false, s4]
      by_cases e3 : E < a.1
      · have e3' : ¬ nI a.1 ≤ nI E := by rw [nile (by omega) (by omega)]; omega
        simp only [eX10_findWatches_68, fx0, fx1, fx2, fx3, fx4, nl_int, nl_ref, nl_none, nl_ti, rz_nil, rz_int, rz_ref, rz_long, cf1, cf2, Option.toList_some, Option.toList_none, List.cons_append, List.nil_append, e3', if_false]
        exact take e3
      · have e3' : nI a.1 ≤ nI E := (nile (by omega) (by omega)).mpr (by omega)
        simp only [eX10_findWatches_68, fx0, fx1, fx2, fx3, fx4, nl_int, nl_ref, nl_none, nl_ti, rz_nil, rz_int, rz_ref, rz_long, cf1, cf2, Option.toList_some, Option.toList_none, List.cons_append, List.nil_append, e3', if_true]
        refine hK τ (some (nI E)) t3 ?_
        unfold takeW
        rw [if_neg e3]
        exact hτ0
theorem fw_enum {Q : Option Value → aW → Prop} {β : aW} {H w : Nat} {M L Li T : Nat → Nat} (hβ : mwB β H w M L Li T) (hw1 : 1 ≤ w) : ∀ n h, h + n = H → ∀ (τ : aW) (r : Nat → Nat) (a : acW) t2 t3, mwS β H τ r a → a.1 ≤ 200 → (∀ j, j < H → r j < w) → (∀ j, h ≤ j → j < H → r j = 0) →
    (∀ τ' r' t2 t3, mwS β H τ' r' (fuW H w M L Li n (wT M L r T h) r (wB M L Li r T h) a) → (∀ j, j < h → r' j = r j) → (∀ j, h ≤ j → j < H → r' j = w - 1) → aE l (d + 4) none 10 cX10_findWatches none Q 104 [some (.ref 109), some (.int 1), ti t2, ti t3] [] τ') →
    aE l (d + 4) none 10 cX10_findWatches none Q 47 [some (.ref 109), some (.int 1), ti t2, ti t3] [] τ := by
  intro n
  induction n with
  | zero =>
    intro h hh τ r a t2 t3 hτ ha hr hz hK
    obtain rfl : h = H := by omega
    refine fw_eval hβ hτ ha hr (fun τ' t2 t3 hS => hK τ' r t2 t3 ?_ (fun _ _ => rfl) (fun j h1 h2 => by omega))
    rw [fuW_0]
    exact hS
  | succ n ih =>
    intro h hh τ r a t2 t3 hτ ha hr hz hK
    obtain ⟨g, hg⟩ : ∃ g : Nat → acW → acW, g = fun p a' => fuW H w M L Li n (stp M L p (wT M L r T h)) (updN r (H - (n + 1)) p) (wB M L Li r T h || !decide (stp M L p (wT M L r T h) p ≤ Li p)) a' := ⟨_, rfl⟩
    have hfl : ∀ n T r b a, (fuW H w M L Li n T r b a).1 ≤ a.1 := by
      intro n T r b a
      cases b with
      | true => rw [fuW_bad]; exact Nat.le_refl _
      | false => rw [fuW_ex]; exact exW_le _ _ _ _
    have hgl : ∀ p a, (g p a).1 ≤ a.1 := fun p a => by rw [hg]; exact hfl _ _ _ _ _
    rw [fuW_s, ← hg] at hK
    have hh' : H - (n + 1) = h := by omega
    have hu : ∀ p j, j ≠ h → updN r h p j = r j := fun p j hj => by unfold updN; rw [if_neg hj]
    have huh : ∀ p, updN r h p h = p := fun p => by unfold updN; rw [if_pos rfl]
    have step : ∀ p (τ : aW) t2 t3, p < w → mwS β H τ (updN r h p) (fo g p a) → (∀ τ' r' t2 t3, mwS β H τ' r' (fo g (p + 1) a) → (∀ j, j < h → r' j = r j) → r' h = p → (∀ j, h < j → j < H → r' j = w - 1) → aE l (d + 4) none 10 cX10_findWatches none Q 104 [some (.ref 109), some (.int 1), ti t2, ti t3] [] τ') → aE l (d + 4) none 10 cX10_findWatches none Q 47 [some (.ref 109), some (.int 1), ti t2, ti t3] [] τ := by
      intro p τ t2 t3 hp hτ hK2
      refine ih (h + 1) (by omega) τ (updN r h p) (fo g p a) t2 t3 hτ (Nat.le_trans (fo_le hgl p a) ha) (fun j hj => ?_) (fun j h1 h2 => ?_) (fun τ' r' t2 t3 hS hlo hhi => hK2 τ' r' t2 t3 ?_ (fun j hj => ?_) ?_ (fun j h1 h2 => hhi j (by omega) h2))
      · by_cases e : j = h
        · rw [e, huh]; exact hp
        · rw [hu p j e]; exact hr j hj
      · rw [hu p j (by omega)]; exact hz j (by omega) h2
      · rw [fo_s, hg, hh']
        rw [wT_s, wB_s, huh, wT_congr (r' := r) h (fun j hj => hu p j (by omega)), wB_congr (r' := r) h (fun j hj => hu p j (by omega))] at hS
        rw [hg, hh'] at hS
        exact hS
      · rw [hlo j (by omega), hu p j (by omega)]
      · rw [hlo h (by omega), huh]
    have inner : ∀ m p (τ : aW) t2 t3, p + m + 1 = w → mwS β H τ (updN r h p) (fo g p a) → aE l (d + 4) none 10 cX10_findWatches none Q 47 [some (.ref 109), some (.int 1), ti t2, ti t3] [] τ := by
      intro m
      induction m with
      | zero =>
        intro p τ t2 t3 hp hτ
        refine step p τ t2 t3 (by omega) hτ (fun τ' r' t2 t3 hS hlo hmid hhi => ?_)
        refine hK τ' r' t2 t3 ?_ hlo (fun j h1 h2 => ?_)
        · rw [show w = p + 1 by omega]
          exact hS
        · by_cases e : j = h
          · rw [e, hmid]; omega
          · exact hhi j (by omega) h2
      | succ m ihm =>
        intro p τ t2 t3 hp hτ
        refine step p τ t2 t3 (by omega) hτ (fun τ' r' t2 t3 hS hlo hmid hhi => ?_)
        obtain ⟨s1, s2, s3, s4, s5⟩ := hS
        simp only [eX10_findWatches_104, eX10_findWatches_105, fx0, fx1, fx2, fx3, fx4, nl_int, nl_ref, nl_none, nl_ti, rz_nil, rz_int, rz_ref, rz_long, cf1, cf2, Option.toList_some, Option.toList_none, List.cons_append, List.nil_append]
        refine aC.of (m_next (H := H) (w := w) (h := h) (p := p) (by rw [s2 4 (by decide)]; exact hβ.1.1) hβ.1.2 (by rw [s2 0 (by decide)]; exact hβ.2.1.1) hβ.2.1.2 (by omega) (by omega) (by rw [s3 h (by omega), hmid]) (fun j h1 h2 => by rw [s3 j h2, hhi j h1 h2])) ?_
        simp only [eX10_findWatches_108, eX10_findWatches_109, fx0, fx1, fx2, fx3, fx4, nl_int, nl_ref, nl_none, nl_ti, rz_nil, rz_int, rz_ref, rz_long, cf1, cf2, Option.toList_some, Option.toList_none, List.cons_append, List.nil_append]
        rw [eX10_findWatches_43]
        simp only [eX10_findWatches_44, fx0, fx1, fx2, fx3, fx4, nl_int, nl_ref, nl_none, nl_ti, rz_nil, rz_int, rz_ref, rz_long, cf1, cf2, Option.toList_some, Option.toList_none, List.cons_append, List.nil_append, show ¬ (1 : Int32) = 0 by decide, if_false]
        refine ihm (p + 1) _ t2 t3 (by omega) ⟨fun c c1 c2 c3 => ?_, fun k hk => ?_, fun j hj => ?_, ?_, ?_⟩
        · rw [sr_ne c2]; exact s1 c c1 c2 c3
        · rw [sr_ne (by decide)]; exact s2 k hk
        · rw [sr_eq]
          unfold upd zr
          by_cases e : j = h
          · rw [if_pos e, e, huh]
          · rw [if_neg e, hu _ j e]
            by_cases e2 : h + 1 ≤ j ∧ j < H
            · rw [if_pos e2, hz j (by omega) hj]; rfl
            · rw [if_neg e2, s3 j hj, hlo j (by omega)]
        · rw [sr_ne (by decide)]; exact s4
        · rw [sr_ne (by decide)]; exact s5
    refine inner (w - 1) 0 τ t2 t3 (by omega) ?_
    rw [show updN r h 0 = r from by
      funext j
      unfold updN
      by_cases e : j = h
      · rw [if_pos e, hz j (by omega) (by omega)]
      · rw [if_neg e]]
    exact hτ
end WA
