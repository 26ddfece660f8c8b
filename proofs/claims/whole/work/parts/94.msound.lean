/-! the making is sound -/
def mty (γ : mkG) : List (ClassId × FieldType) := [(γ.2 0, .int), (γ.2 1, .boolean), (γ.2 2, .object RX7), (γ.2 3, .array .int)]
def mkK (γ : mkG) (U : State) : Prop := va_K γ.1 classes (mty γ) U ∧ mnA U (γ.2 3) (γ.2 0) ∧ (∀ q ∈ nstt, va_Nw (nstw q) U) ∧ va_AO RX7 U
theorem mkK.moved {γ : mkG} {s U : State} (hW : s.WarmedH U.vm) (h : mkK γ s) : mkK γ U := ⟨va_K.moved hW.alike h.1, h.2.1.moved hW.alike, fun q hq => va_Nw.warmM hW (h.2.2.1 q hq), va_AO.moved hW.alike h.2.2.2⟩
theorem mkK.same {γ : mkG} {U V : State} (e : U.vm = V.vm) (h : mkK γ U) : mkK γ V := by
  have ha : U.vm.Alike V.vm := by rw [e]; exact Vm.Alike.refl _
  exact ⟨va_K.moved ha h.1, h.2.1.moved ha, fun q hq => va_Nw.same rfl e (h.2.2.1 q hq), va_AO.moved ha h.2.2.2⟩
def mkPre (γ : mkG) (ad : Nat → Nat) (sz : Nat) (hs : List mkC) (k : Nat) : Array Value → State → Prop := va_Pc [.ref (ad k)] (fun U => U.heap.size = sz ∧ va_P γ.1 classes (mkW γ ad hs) U.heap ∧ mkK γ U ∧ va_D (fun _ => True) (mkW γ ad hs))
def mkPost (γ : mkG) (ad : Nat → Nat) (sz : Nat) (hs hs2 : List mkC) : Array Value → State → Outcome → State → Prop := va_Qv (fun ad' : Nat → Nat => ag hs.length ad ad') (fun ad' t => va_P γ.1 classes (mkW γ ad' hs2) t.heap ∧ va_D (va_A (mkW γ ad hs) sz) (mkW γ ad' hs2)) (va_A (mkW γ ad hs) sz)
def MK (l : Launch) (d j k : Nat) (hs hs2 : List mkC) (dc ds : Nat) : Prop := ∃ q, kct[j]? = some q ∧ ∀ (γ : mkG) (ad : Nat → Nat) (sz : Nat), Met l q.1 (Cond.code q.1 q.2.1 q.2.2 none :: gw) { frames := d, cells := dc, slots := ds, locals := 100 * d } (mkPre γ ad sz hs k) (mkPost γ ad sz hs hs2) dc ds (va_A (mkW γ ad hs) sz)
theorem mkPre_blind {γ : mkG} {ad : Nat → Nat} {sz : Nat} {hs : List mkC} {k : Nat} : FrameBlind (mkPre γ ad sz hs k) := fun a U f mk q => by
  obtain ⟨q0, q1, qP, qK, qD⟩ := q
  exact ⟨q0, q1, qP, mkK.same (U := U) rfl qK, qD⟩
section MS1
variable {p : Program} {l : Launch} {e : Env} {R : Room} {s : State} {m : MethodId} {args : Array Value} {below : List Frame} {meth : Method} {c : Code} {Z : State → Prop} {γ : mkG} {A : Nat → Prop} {d o : Nat} {cc : ByteArray} {nL n0 : Nat} {ad0 : Nat → Nat}
def mkT (p : Program) (R : Room) (s : State) (m : MethodId) (args : Array Value) (meth : Method) (c : Code) (γ : mkG) (A : Nat → Prop) (d o : Nat) (cc : ByteArray) (nL : Nat) : Prop :=
  (p.tables.exec = Jvm.exec ∧ c.code = cc ∧ c.maxLocals = nL ∧ s.vm.findClass (cn o) = some m.cls) ∧ (∀ w ∈ gw, w.before args s = true) ∧ mkK γ s ∧ (∀ q, s.heap.size ≤ q → A q) ∧ (d + 1 ≤ R.frames ∧ 100 * (d + 1) ≤ R.locals) ∧ (o < 11 → meth.name = "<init>")
def mkH (s : State) (γ : mkG) (A : Nat → Prop) (nL n0 : Nat) (ad0 ad : Nat → Nat) (H : Heap) (locs : List Loc) (ls' : Array Slot) (ls : aL) (hs : List mkC) : Prop :=
  va_P γ.1 classes (mkW γ ad hs) H ∧ va_D A (mkW γ ad hs) ∧ va_S A s.heap H locs ∧ lo_has ad ls' nL ls ∧ ag n0 ad0 ad ∧ n0 ≤ hs.length
/-- a step of the making, without a call -/
def mkZ (p : Program) (l : Launch) (e : Env) (R : Room) (s : State) (m : MethodId) (args : Array Value) (below : List Frame) (meth : Method) (c : Code) (Z : State → Prop) (γ : mkG) (A : Nat → Prop) (nL n0 : Nat) (ad0 : Nat → Nat) (cl sl : Nat) (r : mkN) : Prop :=
  ∀ (ad : Nat → Nat) (H : Heap) (locs : List Loc) (ls' : Array Slot), mkH s γ A nL n0 ad0 ad H locs ls' r.2.1 r.2.2.2.1 → W p l e R s m args below meth c H locs (cl + r.2.2.2.2.1) (sl + r.2.2.2.2.2) Z (F0 m r.1 ls' (r.2.2.1.map (rv ad)))
variable {pc : Nat} {ls : aL} {st : List Value} {hs : List mkC} {cl sl : Nat} {ad : Nat → Nat} {H : Heap} {locs : List Loc} {ls' : Array Slot} {r : mkN}
theorem z_X {pc2 : Nat} {st2 : List Value} (h : mkX pc2 ls st2 hs = some (.inl r)) (hG : mkZ p l e R s m args below meth c Z γ A nL n0 ad0 cl sl r) (hH : mkH s γ A nL n0 ad0 ad H locs ls' ls hs) : W p l e R s m args below meth c H locs cl sl Z (F0 m pc2 ls' (st2.map (rv ad))) := by
  cases h
  exact hG ad H locs ls' hH
theorem z_SI {k : Nat} (hC : mkT p R s m args meth c γ A d o cc nL) (hd : ∃ k4 : Fin 4, (k4 : Nat) = k ∧ decode cc pc = .ok (.istore_n k4, 1)) (h : mkSI k pc ls st hs = some (.inl r)) (hG : mkZ p l e R s m args below meth c Z γ A nL n0 ad0 cl sl r) (hH : mkH s γ A nL n0 ad0 ad H locs ls' ls hs) : W p l e R s m args below meth c H locs cl sl Z (F0 m pc ls' (st.map (rv ad))) := by
  obtain ⟨⟨hx, hb, hml, hown⟩, hts, hK, hA, hR, hin⟩ := hC
  obtain ⟨k4, rfl, hd⟩ := hd
  obtain ⟨hP, hD, hS, hl, hag, hn⟩ := hH
  unfold mkSI at h
  split at h
  · next x r2 =>
    split at h
    · next hk =>
      cases h
      have hn2 : (k4 : Nat) < nL := by rw [← hl.1]; exact hk.2
      exact lv_istore_n hx hb hd rfl hl.lv hn2 rfl (fun ls2 h2 => hG ad H locs ls2 ⟨hP, hD, hS, lo_set1 (v := .int x) hl.1 hn2 hk.1 h2, hag, hn⟩)
    · cases h
  · cases h
theorem z_SA {k : Nat} (hC : mkT p R s m args meth c γ A d o cc nL) (hd : ∃ k4 : Fin 4, (k4 : Nat) = k ∧ decode cc pc = .ok (.astore_n k4, 1)) (h : mkSA k pc ls st hs = some (.inl r)) (hG : mkZ p l e R s m args below meth c Z γ A nL n0 ad0 cl sl r) (hH : mkH s γ A nL n0 ad0 ad H locs ls' ls hs) : W p l e R s m args below meth c H locs cl sl Z (F0 m pc ls' (st.map (rv ad))) := by
  obtain ⟨⟨hx, hb, hml, hown⟩, hts, hK, hA, hR, hin⟩ := hC
  obtain ⟨k4, rfl, hd⟩ := hd
  obtain ⟨hP, hD, hS, hl, hag, hn⟩ := hH
  unfold mkSA at h
  split at h
  · next x r2 =>
    split at h
    · next hk =>
      cases h
      have hn2 : (k4 : Nat) < nL := by rw [← hl.1]; exact hk.2
      exact lv_astore_n hx hb hd rfl hl.lv hn2 rfl (fun ls2 h2 => hG ad H locs ls2 ⟨hP, hD, hS, lo_set1 (v := .ref x) hl.1 hn2 hk.1 h2, hag, hn⟩)
    · cases h
  · cases h
theorem z_Inc {k : Nat} {n : Int} (hC : mkT p R s m args meth c γ A d o cc nL) (hd : decode cc pc = .ok (.iinc k n, 3)) (h : mkInc k n pc ls st hs = some (.inl r)) (hG : mkZ p l e R s m args below meth c Z γ A nL n0 ad0 cl sl r) (hH : mkH s γ A nL n0 ad0 ad H locs ls' ls hs) : W p l e R s m args below meth c H locs cl sl Z (F0 m pc ls' (st.map (rv ad))) := by
  obtain ⟨⟨hx, hb, hml, hown⟩, hts, hK, hA, hR, hin⟩ := hC
  obtain ⟨hP, hD, hS, hl, hag, hn⟩ := hH
  unfold mkInc at h
  split at h
  · next x hj =>
    split at h
    · next hk =>
      cases h
      have hn2 : k < nL := by rw [← hl.1]; exact hk.2
      have hm : (k, Value.int x) ∈ lvl ad ls := lvl_mem.mpr ⟨.int x, join_at hj, rfl⟩
      obtain ⟨i, hi⟩ := List.getElem?_of_mem hm
      exact lv_iinc hx hb hd hl.lv hi rfl hn2 rfl (fun ls2 h2 => hG ad H locs ls2 ⟨hP, hD, hS, lo_set1 (v := .int (x + Int32.ofInt n)) hl.1 hn2 hk.1 h2, hag, hn⟩)
    · cases h
  · cases h
theorem z_Ge {off : Int} (hC : mkT p R s m args meth c γ A d o cc nL) (hd : decode cc pc = .ok (.if_icmp .ge off, 3)) (h : mkGe off pc ls st hs = some (.inl r)) (hG : mkZ p l e R s m args below meth c Z γ A nL n0 ad0 cl sl r) (hH : mkH s γ A nL n0 ad0 ad H locs ls' ls hs) : W p l e R s m args below meth c H locs cl sl Z (F0 m pc ls' (st.map (rv ad))) := by
  obtain ⟨⟨hx, hb, hml, hown⟩, hts, hK, hA, hR, hin⟩ := hC
  unfold mkGe at h
  split at h
  · next y x r2 =>
    split at h
    · next hk =>
      refine lv_icmp_ge hx hb hd (tg_eq hk) (fun q => ?_) (fun q => ?_)
      · rw [if_pos q] at h
        exact z_X h hG hH
      · rw [if_neg q] at h
        exact z_X h hG hH
    · cases h
  · cases h
theorem z_Go {off : Int} (hC : mkT p R s m args meth c γ A d o cc nL) (hd : decode cc pc = .ok (.goto off, 3)) (h : mkGo off pc ls st hs = some (.inl r)) (hG : mkZ p l e R s m args below meth c Z γ A nL n0 ad0 cl sl r) (hH : mkH s γ A nL n0 ad0 ad H locs ls' ls hs) : W p l e R s m args below meth c H locs cl sl Z (F0 m pc ls' (st.map (rv ad))) := by
  obtain ⟨⟨hx, hb, hml, hown⟩, hts, hK, hA, hR, hin⟩ := hC
  unfold mkGo at h
  split at h
  · next hk => exact lv_goto hx hb hd (tg_eq hk) (z_X h hG hH)
  · cases h
theorem z_Dup (hC : mkT p R s m args meth c γ A d o cc nL) (hd : decode cc pc = .ok (.dup, 1)) (h : mkDup pc ls st hs = some (.inl r)) (hG : mkZ p l e R s m args below meth c Z γ A nL n0 ad0 cl sl r) (hH : mkH s γ A nL n0 ad0 ad H locs ls' ls hs) : W p l e R s m args below meth c H locs cl sl Z (F0 m pc ls' (st.map (rv ad))) := by
  obtain ⟨⟨hx, hb, hml, hown⟩, hts, hK, hA, hR, hin⟩ := hC
  unfold mkDup at h
  split at h
  · split at h
    · next hv => exact lv_dup hx hb hd (by rw [rv_cat]; exact hv) (z_X h hG hH)
    · cases h
  · cases h
theorem z_New {x : Nat} (hC : mkT p R s m args meth c γ A d o cc nL) (hd : decode cc pc = .ok (.new x, 3)) (h : mkNew o x pc ls st hs = some (.inl r)) (hc1 : cl + r.2.2.2.2.1 ≤ R.cells) (hc2 : sl + r.2.2.2.2.2 ≤ R.slots) (hG : mkZ p l e R s m args below meth c Z γ A nL n0 ad0 cl sl r) (hH : mkH s γ A nL n0 ad0 ad H locs ls' ls hs) : W p l e R s m args below meth c H locs cl sl Z (F0 m pc ls' (st.map (rv ad))) := by
  obtain ⟨⟨hx, hb, hml, hown⟩, hts, hK, hA, hR, hin⟩ := hC
  obtain ⟨hP, hD, hS, hl, hag, hn⟩ := hH
  unfold mkNew at h
  split at h
  · next ci hci =>
    split at h
    · next hw =>
      cases h
      obtain ⟨w1, w2, w3⟩ := wfm_of hw.1
      obtain ⟨C, T, N, ty, k1, k2, k3, k4, k5, k6, k7⟩ := nwt_ok _ (find_mem hci)
      have okc := classes_ok _ (List.mem_of_getElem? k1)
      dsimp only at k1 k2 k6 k7 hc1 hc2
      rw [k7] at hc2
      refine va_new (ci := ci) (fs := dfl ci) (C := C) (T := T) (N := N) hx hb hts okc.1 ty k5 hown (hts _ k2) (hts _ k3) (hts _ k4) hK.1 hP hD hS hA k1 k6 hc1 hc2 hd (fun q H1 hP1 hD1 hS1 => ?_)
      have e1 : mkW γ (uA ad hs.length q) (hs ++ [.inl (ci, dfl ci)]) = mkW γ ad hs ++ [(q, .inr (ci, dfl ci))] := by
        rw [mkW_push w1 hw.2]
        show _ ++ [(q, Sum.inr (ci, (dfl ci).map (rv _)))] = _
        rw [dfl_rv]
      have hg := uA_lt hw.2 ad q
      have := hG (uA ad hs.length q) H1 locs ls' ⟨by rw [e1]; exact hP1, by rw [e1]; exact hD1, hS1, lo_ext hg hl w2, fun p hp => by rw [hg p (by omega)]; exact hag p hp, by rw [List.length_append]; omega⟩
      dsimp only at this
      rw [k7, List.map_cons, st_ext hg w3, show rv (uA ad hs.length q) (.ref hs.length) = .ref q from congrArg Value.ref (uA_at ad hs.length q)] at this
      exact this
    · cases h
  · cases h
end MS1
