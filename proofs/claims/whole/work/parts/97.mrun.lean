/-! the making is sound: a whole run -/
section MS4
variable {p : Program} {l : Launch} {e : Env} {R : Room} {s : State} {m : MethodId} {args : Array Value} {below : List Frame} {meth : Method} {c : Code} {Z : State → Prop} {γ : mkG} {A : Nat → Prop} {d o : Nat} {cc : ByteArray} {nL n0 : Nat} {ad0 : Nat → Nat}
variable {pc : Nat} {ls : aL} {st : List Value} {hs : List mkC} {cl sl : Nat} {ad : Nat → Nat} {H : Heap} {locs : List Loc} {ls' : Array Slot} {r : mkN}
set_option maxHeartbeats 4000000 in
theorem z_step {i : Instr} {len : Nat} (hC : mkT p R s m args meth c γ A d o cc nL) (hd : decode cc pc = .ok (i, len)) (hlen : len = lenM i) (h : mkS o i pc ls st hs = some (.inl r)) (hc1 : cl + r.2.2.2.2.1 ≤ R.cells) (hc2 : sl + r.2.2.2.2.2 ≤ R.slots) (hG : mkZ p l e R s m args below meth c Z γ A nL n0 ad0 cl sl r) (hH : mkH s γ A nL n0 ad0 ad H locs ls' ls hs) : W p l e R s m args below meth c H locs cl sl Z (F0 m pc ls' (st.map (rv ad))) := by
  have hC0 := hC
  obtain ⟨⟨hx, hb, hml, hown⟩, hts, hK, hA, hR, hin⟩ := hC
  unfold mkS at h
  split at h
  case h_1 n => rw [show len = 1 from hlen] at hd; exact lv_iconst hx hb hd rfl (z_X h hG hH)
  case h_2 n => rw [show len = 2 from hlen] at hd; exact lv_bipush hx hb hd rfl (z_X h hG hH)
  case h_3 n => rw [show len = 3 from hlen] at hd; exact lv_sipush hx hb hd rfl (z_X h hG hH)
  case h_4 k =>
    rw [show len = 1 from hlen] at hd
    split at h
    · next x hj => exact lv_aload_n hx hb hd rfl (hH.2.2.2.1.2.2.2 _ _ (join_at hj)) (z_X h hG hH)
    · cases h
  case h_5 k =>
    rw [show len = 1 from hlen] at hd
    split at h
    · next x hj => exact lv_iload_n hx hb hd rfl (hH.2.2.2.1.2.2.2 _ _ (join_at hj)) (z_X h hG hH)
    · cases h
  case h_6 k => rw [show len = 1 from hlen] at hd; exact z_SI hC0 ⟨k, rfl, hd⟩ h hG hH
  case h_7 k => rw [show len = 1 from hlen] at hd; exact z_SA hC0 ⟨k, rfl, hd⟩ h hG hH
  case h_8 k n => rw [show len = 3 from hlen] at hd; exact z_Inc hC0 hd h hG hH
  case h_9 off => rw [show len = 3 from hlen] at hd; exact z_Ge hC0 hd h hG hH
  case h_10 off => rw [show len = 3 from hlen] at hd; exact z_Go hC0 hd h hG hH
  case h_11 => rw [show len = 1 from hlen] at hd; exact z_Dup hC0 hd h hG hH
  case h_12 x => rw [show len = 3 from hlen] at hd; exact z_New hC0 hd h hc1 hc2 hG hH
  case h_13 => rw [show len = 2 from hlen] at hd; exact z_NAi hC0 hd h hc1 hc2 hG hH
  case h_14 => rw [show len = 2 from hlen] at hd; exact z_NAb hC0 hd h hc1 hc2 hG hH
  case h_15 x => rw [show len = 3 from hlen] at hd; exact z_NQ hC0 hd h hc1 hc2 hG hH
  case h_16 x => rw [show len = 4 from hlen] at hd; exact z_MM hC0 hd h hc1 hc2 hG hH
  case h_17 x => rw [show len = 3 from hlen] at hd; exact z_Pt hC0 hd h hG hH
  case h_18 x => rw [show len = 3 from hlen] at hd; exact z_Gt hC0 hd h hG hH
  case h_19 => rw [show len = 1 from hlen] at hd; exact z_AS hC0 hd h hG hH
  case h_20 x =>
    rw [show len = 3 from hlen] at hd
    unfold mkIS at h
    split at h
    · next a r2 =>
      split at h
      · next hr =>
        split at h
        · next ho =>
          refine W.objInit (g := F0 m pc ls' (.ref (ad a) :: r2.map (rv ad))) hx hb hown (hts _ (obt_ok _ ho)) (hts _ ob_inst) (hts _ ob_code) rfl (by rw [hml]; exact hH.2.2.2.1.2.1) rfl hd (by omega) (by
            have : ((r2.map (rv ad)).map fun v => v.category).sum = rsz r2 := rsz_map ad r2
            rw [this]
            show 2 * 0 + rsz r2 + 12 ≤ R.locals
            omega) (z_X h hG hH)
        · split at h
          · cases h
          · split at h <;> cases h
      · cases h
    · cases h
  case h_21 => cases h
theorem mkS_call {i : Instr} {t : Nat × Nat × List Value} (h : mkS o i pc ls st hs = some (.inr t)) : ∃ x, i = .invokespecial x ∧ st = .ref t.2.1 :: t.2.2 ∧ rsz t.2.2 ≤ 8 ∧ (nsF o x = some t.1 ∨ plF o x = some t.1) := by
  have noX : ∀ {a b c2 d2}, mkX a b c2 d2 = some (.inr t) → False := fun h => by cases h
  unfold mkS at h
  split at h
  case h_20 x =>
    unfold mkIS at h
    split at h
    · next a r2 =>
      split at h
      · next hr =>
        split at h
        · exact (noX h).elim
        · split at h
          · next j hj => cases h; exact ⟨x, rfl, rfl, hr, Or.inl hj⟩
          · split at h
            · next j hj => cases h; exact ⟨x, rfl, rfl, hr, Or.inr hj⟩
            · cases h
      · cases h
    · cases h
  all_goals exfalso
  case h_1 => exact noX h
  case h_2 => exact noX h
  case h_3 => exact noX h
  case h_4 => split at h <;> first | exact noX h | cases h
  case h_5 => split at h <;> first | exact noX h | cases h
  case h_6 => unfold mkSI at h; split at h <;> (try split at h) <;> first | exact noX h | cases h
  case h_7 => unfold mkSA at h; split at h <;> (try split at h) <;> first | exact noX h | cases h
  case h_8 => unfold mkInc at h; split at h <;> (try split at h) <;> first | exact noX h | cases h
  case h_9 => unfold mkGe at h; split at h <;> (try split at h) <;> first | exact noX h | cases h
  case h_10 => unfold mkGo at h; split at h <;> first | exact noX h | cases h
  case h_11 => unfold mkDup at h; split at h <;> (try split at h) <;> first | exact noX h | cases h
  case h_12 => unfold mkNew at h; split at h <;> (try split at h) <;> cases h
  case h_13 => unfold mkNA at h; split at h <;> (try split at h) <;> cases h
  case h_14 => unfold mkNA at h; split at h <;> (try split at h) <;> cases h
  case h_15 => unfold mkNQ at h; split at h <;> (try split at h) <;> cases h
  case h_16 => unfold mkMM at h; split at h <;> (try split at h) <;> cases h
  case h_17 => unfold mkPt at h; split at h <;> (try split at h) <;> (try split at h) <;> first | exact noX h | cases h
  case h_18 => unfold mkGt at h; split at h <;> (try split at h) <;> (try split at h) <;> (try split at h) <;> first | exact noX h | cases h
  case h_19 => unfold mkAS at h; split at h <;> (try split at h) <;> (try split at h) <;> first | exact noX h | cases h
  case h_21 => cases h
end MS4
