/-! a clause: the class -/
theorem RS.su2 {n k : Nat} {τ : aW} {t : rS} {v : Int32} (h : RS n τ t) : RS n (su τ 2 k v) t := by
  unfold RS
  rw [su_ne (show (1 : Nat) ≠ 2 by decide)]
  exact h
def F2 (τ τ' : aW) : Prop := (∀ a, a ≠ 1 → a ≠ 2 → τ' a = τ a) ∧ (∀ k, k ≠ 2 → k ≠ 4 → k ≠ 5 → τ' 1 k = τ 1 k)
section CL
variable {l : Launch} {d : Nat} {σ : aW}
theorem c_night {n : Nat} {t t1 t2 t3 t4 : rS} {P : Option Value → aW → Prop} (hn : n ≤ 220) (h : RS n σ t) (e1 : rd (σ 8) n 1 6 t = t1) (e2 : rd (σ 8) n 0 99 t1 = t2) (e3 : rd (σ 8) n 0 99 t2 = t3) (e4 : rd (σ 8) n 0 20 t3 = t4)
    (hP : ∀ τ, RS n τ (rdE (σ 8) n t4) → F2 σ τ → (τ 2 0 = rdV (σ 8) n 1 t ∧ τ 2 1 = rdV (σ 8) n 0 t1 ∧ τ 2 2 = rdV (σ 8) n 0 t2 ∧ τ 2 3 = rdV (σ 8) n 0 t3 ∧ ∀ k, 4 ≤ k → τ 2 k = σ 2 k) → P none τ) : aC l (d + 4) 27 [.ref 1] σ P := by
  refine aC_of rfl (Nat.le_of_ble_eq_true rfl) ?_
  show aE l (d + 3) none 5 cX5_readNight none _ 0 [some (.ref 1)] [] σ
  simp only [eX5_readNight_0, eX5_readNight_1, eX5_readNight_4, eX5_readNight_5, eX5_readNight_6, eX5_readNight_8, fx0, fx1, fx2, fx3, fx4, nl_int, nl_ref, nl_none, nl_ti, rz_nil, rz_int, rz_ref, rz_long, cf1, cf2, Option.toList_some, Option.toList_none, List.cons_append, List.nil_append]
  refine c_num hn h (fun τ1 r1 f1 => ?_)
  rw [e1] at r1
  have x1 : τ1 8 = σ 8 := f1.1 8 (by decide)
  simp only [eX5_readNight_11, eX5_readNight_14, eX5_readNight_15, eX5_readNight_18, eX5_readNight_19, eX5_readNight_20, eX5_readNight_22, fx0, fx1, fx2, fx3, fx4, nl_int, nl_ref, nl_none, nl_ti, rz_nil, rz_int, rz_ref, rz_long, cf1, cf2, Option.toList_some, Option.toList_none, List.cons_append, List.nil_append]
  have y1 : (su τ1 2 0 (rdV (σ 8) n 1 t)) 8 = σ 8 := by rw [su_ne (by decide)]; exact x1
  refine c_num hn r1.su2 (fun τ2 r2 f2 => ?_)
  rw [y1] at r2 ⊢
  rw [e2] at r2
  have x2 : τ2 8 = σ 8 := (f2.1 8 (by decide)).trans y1
  simp only [eX5_readNight_25, eX5_readNight_28, eX5_readNight_29, eX5_readNight_32, eX5_readNight_33, eX5_readNight_34, eX5_readNight_36, fx0, fx1, fx2, fx3, fx4, nl_int, nl_ref, nl_none, nl_ti, rz_nil, rz_int, rz_ref, rz_long, cf1, cf2, Option.toList_some, Option.toList_none, List.cons_append, List.nil_append]
  have y2 : (su τ2 2 1 (rdV (σ 8) n 0 t1)) 8 = σ 8 := by rw [su_ne (by decide)]; exact x2
  refine c_num hn r2.su2 (fun τ3 r3 f3 => ?_)
  rw [y2] at r3 ⊢
  rw [e3] at r3
  have x3 : τ3 8 = σ 8 := (f3.1 8 (by decide)).trans y2
  simp only [eX5_readNight_39, eX5_readNight_42, eX5_readNight_43, eX5_readNight_46, eX5_readNight_47, eX5_readNight_48, eX5_readNight_50, fx0, fx1, fx2, fx3, fx4, nl_int, nl_ref, nl_none, nl_ti, rz_nil, rz_int, rz_ref, rz_long, cf1, cf2, Option.toList_some, Option.toList_none, List.cons_append, List.nil_append]
  have y3 : (su τ3 2 2 (rdV (σ 8) n 0 t2)) 8 = σ 8 := by rw [su_ne (by decide)]; exact x3
  refine c_num hn r3.su2 (fun τ4 r4 f4 => ?_)
  rw [y3] at r4 ⊢
  rw [e4] at r4
  have x4 : τ4 8 = σ 8 := (f4.1 8 (by decide)).trans y3
  simp only [eX5_readNight_53, eX5_readNight_56, eX5_readNight_57, fx0, fx1, fx2, fx3, fx4, nl_int, nl_ref, nl_none, nl_ti, rz_nil, rz_int, rz_ref, rz_long, cf1, cf2, Option.toList_some, Option.toList_none, List.cons_append, List.nil_append]
  have y4 : (su τ4 2 3 (rdV (σ 8) n 0 t3)) 8 = σ 8 := by rw [su_ne (by decide)]; exact x4
  refine c_end hn r4.su2 (fun τ5 r5 f5 => ?_)
  rw [y4] at r5
  simp only [eX5_readNight_60, fx0, fx1, fx2, fx3, fx4, nl_int, nl_ref, nl_none, nl_ti, rz_nil, rz_int, rz_ref, rz_long, cf1, cf2, Option.toList_some, Option.toList_none, List.cons_append, List.nil_append]
  have z2 : ∀ k, τ5 2 k = if k = 3 then rdV (σ 8) n 0 t3 else if k = 2 then rdV (σ 8) n 0 t2 else if k = 1 then rdV (σ 8) n 0 t1 else if k = 0 then rdV (σ 8) n 1 t else σ 2 k := fun k => by
    rw [f5.1 2 (by decide), su_at, f4.1 2 (by decide), su_at, f3.1 2 (by decide), su_at, f2.1 2 (by decide), su_at, f1.1 2 (by decide)]
  refine hP τ5 r5 ⟨fun a a1 a2 => ?_, fun k k2 k4 k5 => ?_⟩ ⟨by rw [z2]; rfl, by rw [z2]; rfl, by rw [z2]; rfl, by rw [z2]; rfl, fun k hk => ?_⟩
  · rw [f5.1 a a1, su_ne a2, f4.1 a a1, su_ne a2, f3.1 a a1, su_ne a2, f2.1 a a1, su_ne a2, f1.1 a a1]
  · rw [f5.2 k k2 k4 k5, su_ne (by decide), f4.2 k k2 k4 k5, su_ne (by decide), f3.2 k k2 k4 k5, su_ne (by decide), f2.2 k k2 k4 k5, su_ne (by decide), f1.2 k k2 k4 k5]
  · rw [z2, if_neg (by omega), if_neg (by omega), if_neg (by omega), if_neg (by omega)]
theorem F1.tr {a b c : aW} (h : F1 a b) (h' : F1 b c) : F1 a c := ⟨fun x hx => (h'.1 x hx).trans (h.1 x hx), fun k k2 k4 k5 => (h'.2 k k2 k4 k5).trans (h.2 k k2 k4 k5)⟩
theorem c_watcher {n w : Nat} {t t1 t2 t3 t4 : rS} {P : Option Value → aW → Prop} (hn : n ≤ 220) (h : RS n σ t) (hw : σ 2 4 = nI w) (hw6 : w < 6) (e1 : rd (σ 8) n 0 99 t = t1) (e2 : rd (σ 8) n 0 30 t1 = t2) (e3 : rd (σ 8) n 0 30 t2 = t3) (e4 : rd (σ 8) n 0 99 t3 = t4)
    (hP : ∀ τ τ', RS n τ (rdE (σ 8) n t4) → F1 σ τ → τ' = su (su (su (su (su τ 3 w (rdV (σ 8) n 0 t)) 4 w (rdV (σ 8) n 0 t1)) 5 w (rdV (σ 8) n 0 t2)) 6 w (rdV (σ 8) n 0 t3)) 2 4 (nI (w + 1)) → P none τ') : aC l (d + 4) 28 [.ref 1] σ P := by
  refine aC_of rfl (Nat.le_of_ble_eq_true rfl) ?_
  show aE l (d + 3) none 5 cX5_readWatcher none _ 0 [some (.ref 1), none, none, none, none] [] σ
  simp only [eX5_readWatcher_0, eX5_readWatcher_1, eX5_readWatcher_2, eX5_readWatcher_4, fx0, fx1, fx2, fx3, fx4, nl_int, nl_ref, nl_none, nl_ti, rz_nil, rz_int, rz_ref, rz_long, cf1, cf2, Option.toList_some, Option.toList_none, List.cons_append, List.nil_append]
  refine c_num hn h (fun τ1 r1 f1 => ?_)
  rw [e1] at r1
  have x1 : τ1 8 = σ 8 := f1.1 8 (by decide)
  simp only [eX5_readWatcher_7, eX5_readWatcher_8, eX5_readWatcher_9, eX5_readWatcher_10, eX5_readWatcher_12, fx0, fx1, fx2, fx3, fx4, nl_int, nl_ref, nl_none, nl_ti, rz_nil, rz_int, rz_ref, rz_long, cf1, cf2, Option.toList_some, Option.toList_none, List.cons_append, List.nil_append]
  refine c_num hn r1 (fun τ2 r2 f2 => ?_)
  rw [x1] at r2 ⊢
  rw [e2] at r2
  have g2 := f1.tr f2
  have x2 : τ2 8 = σ 8 := g2.1 8 (by decide)
  simp only [eX5_readWatcher_15, eX5_readWatcher_16, eX5_readWatcher_17, eX5_readWatcher_18, eX5_readWatcher_20, fx0, fx1, fx2, fx3, fx4, nl_int, nl_ref, nl_none, nl_ti, rz_nil, rz_int, rz_ref, rz_long, cf1, cf2, Option.toList_some, Option.toList_none, List.cons_append, List.nil_append]
  refine c_num hn r2 (fun τ3 r3 f3 => ?_)
  rw [x2] at r3 ⊢
  rw [e3] at r3
  have g3 := g2.tr f3
  have x3 : τ3 8 = σ 8 := g3.1 8 (by decide)
  simp only [eX5_readWatcher_23, eX5_readWatcher_24, eX5_readWatcher_25, eX5_readWatcher_26, eX5_readWatcher_28, fx0, fx1, fx2, fx3, fx4, nl_int, nl_ref, nl_none, nl_ti, rz_nil, rz_int, rz_ref, rz_long, cf1, cf2, Option.toList_some, Option.toList_none, List.cons_append, List.nil_append]
  refine c_num hn r3 (fun τ4 r4 f4 => ?_)
  rw [x3] at r4 ⊢
  rw [e4] at r4
  have g4 := g3.tr f4
  have x4 : τ4 8 = σ 8 := g4.1 8 (by decide)
  simp only [eX5_readWatcher_31, eX5_readWatcher_33, eX5_readWatcher_34, fx0, fx1, fx2, fx3, fx4, nl_int, nl_ref, nl_none, nl_ti, rz_nil, rz_int, rz_ref, rz_long, cf1, cf2, Option.toList_some, Option.toList_none, List.cons_append, List.nil_append]
  refine c_end hn r4 (fun τ5 r5 f5 => ?_)
  rw [x4] at r5
  have g5 := g4.tr f5
  simp only [eX5_readWatcher_37, eX5_readWatcher_38, eX5_readWatcher_41, eX5_readWatcher_42, eX5_readWatcher_43, eX5_readWatcher_44, eX5_readWatcher_46, fx0, fx1, fx2, fx3, fx4, nl_int, nl_ref, nl_none, nl_ti, rz_nil, rz_int, rz_ref, rz_long, cf1, cf2, Option.toList_some, Option.toList_none, List.cons_append, List.nil_append]
  refine aC.of (c_addWatcher (w := w) (by rw [g5.1 2 (by decide)]; exact hw) hw6) ?_
  simp only [eX5_readWatcher_49, fx0, fx1, fx2, fx3, fx4, nl_int, nl_ref, nl_none, nl_ti, rz_nil, rz_int, rz_ref, rz_long, cf1, cf2, Option.toList_some, Option.toList_none, List.cons_append, List.nil_append]
  exact hP τ5 _ r5 g5 rfl
theorem c_sleeper {n s w : Nat} {t t1 : rS} {P : Option Value → aW → Prop} (hn : n ≤ 220) (h : RS n σ t) (hw : σ 2 4 = nI w) (hw6 : w ≤ 6) (hs : σ 2 5 = nI s) (hs8 : s < 8) (e1 : rd (σ 8) n 0 (nI (2 ^ w - 1)) t = t1)
    (hP : ∀ τ τ', RS n τ (rdE (σ 8) n t1) → F1 σ τ → τ' = su (su τ 7 s (rdV (σ 8) n 0 t)) 2 5 (nI (s + 1)) → P none τ') : aC l (d + 4) 29 [.ref 1] σ P := by
  refine aC_of rfl (Nat.le_of_ble_eq_true rfl) ?_
  show aE l (d + 3) none 5 cX5_readSleeper none _ 0 [some (.ref 1), none] [] σ
  simp only [eX5_readSleeper_0, eX5_readSleeper_1, eX5_readSleeper_2, eX5_readSleeper_3, eX5_readSleeper_6, fx0, fx1, fx2, fx3, fx4, nl_int, nl_ref, nl_none, nl_ti, rz_nil, rz_int, rz_ref, rz_long, cf1, cf2, Option.toList_some, Option.toList_none, List.cons_append, List.nil_append]
  refine aC.of (c_everybody (Or.inl rfl)) ?_
  rw [hw, ev6 w hw6]
  simp only [eX5_readSleeper_9, fx0, fx1, fx2, fx3, fx4, nl_int, nl_ref, nl_none, nl_ti, rz_nil, rz_int, rz_ref, rz_long, cf1, cf2, Option.toList_some, Option.toList_none, List.cons_append, List.nil_append]
  refine c_num hn h (fun τ1 r1 f1 => ?_)
  rw [e1] at r1
  have x1 : τ1 8 = σ 8 := f1.1 8 (by decide)
  simp only [eX5_readSleeper_12, eX5_readSleeper_13, eX5_readSleeper_14, fx0, fx1, fx2, fx3, fx4, nl_int, nl_ref, nl_none, nl_ti, rz_nil, rz_int, rz_ref, rz_long, cf1, cf2, Option.toList_some, Option.toList_none, List.cons_append, List.nil_append]
  refine c_end hn r1 (fun τ5 r5 f5 => ?_)
  rw [x1] at r5
  have g5 := f1.tr f5
  simp only [eX5_readSleeper_17, eX5_readSleeper_18, eX5_readSleeper_21, eX5_readSleeper_22, fx0, fx1, fx2, fx3, fx4, nl_int, nl_ref, nl_none, nl_ti, rz_nil, rz_int, rz_ref, rz_long, cf1, cf2, Option.toList_some, Option.toList_none, List.cons_append, List.nil_append]
  refine aC.of (c_addSleeper (s := s) (by rw [g5.1 2 (by decide)]; exact hs) hs8) ?_
  simp only [eX5_readSleeper_25, fx0, fx1, fx2, fx3, fx4, nl_int, nl_ref, nl_none, nl_ti, rz_nil, rz_int, rz_ref, rz_long, cf1, cf2, Option.toList_some, Option.toList_none, List.cons_append, List.nil_append]
  exact hP τ5 _ r5 g5 rfl
end CL
