/-! the making is sound: runs and constructors -/
theorem mkR_s (call : Nat → Nat → List mkC → Option (List mkC × Nat × Nat)) (o : Nat) (cc : ByteArray) (stop f pc : Nat) (ls : aL) (st : List Value) (hs : List mkC) (cl sl : Nat) : mkR call o cc stop (f + 1) pc ls st hs cl sl = if pc = stop then some (pc, ls, st, hs, cl, sl) else match decode cc pc with
    | .ok q => if isRet q.1 = true then some (pc, ls, st, hs, cl, sl) else if q.2 = lenM q.1 then (match mkS o q.1 pc ls st hs with
        | some (.inl r) => mkR call o cc stop f r.1 r.2.1 r.2.2.1 r.2.2.2.1 (cl + r.2.2.2.2.1) (sl + r.2.2.2.2.2)
        | some (.inr r) => (match call r.1 r.2.1 hs with
          | some t => if wfm ls st hs = true ∧ hs.length ≤ t.1.length then mkR call o cc stop f (pc + 3) ls r.2.2 t.1 (cl + t.2.1) (sl + t.2.2) else none
          | none => none)
        | none => none) else none
    | _ => none := by
  rw [mkR]
  rfl
theorem mkR_mono (call : Nat → Nat → List mkC → Option (List mkC × Nat × Nat)) (o : Nat) (cc : ByteArray) (stop : Nat) : ∀ f pc ls st hs cl sl r, mkR call o cc stop f pc ls st hs cl sl = some r → cl ≤ r.2.2.2.2.1 ∧ sl ≤ r.2.2.2.2.2 := by
  intro f
  induction f with
  | zero => intro pc ls st hs cl sl r h; rw [mkR] at h; cases h
  | succ f ih =>
    intro pc ls st hs cl sl r h
    rw [mkR_s] at h
    split at h
    · cases h; exact ⟨Nat.le_refl _, Nat.le_refl _⟩
    · split at h
      · split at h
        · cases h; exact ⟨Nat.le_refl _, Nat.le_refl _⟩
        · split at h
          · split at h
            · obtain ⟨a, b⟩ := ih _ _ _ _ _ _ _ h
              exact ⟨by omega, by omega⟩
            · split at h
              · split at h
                · obtain ⟨a, b⟩ := ih _ _ _ _ _ _ _ h
                  exact ⟨by omega, by omega⟩
                · cases h
              · cases h
            · cases h
          · cases h
      · cases h
section MS5
variable {p : Program} {l : Launch} {e : Env} {R : Room} {s : State} {m : MethodId} {args : Array Value} {below : List Frame} {meth : Method} {c : Code} {Z : State → Prop} {γ : mkG} {A : Nat → Prop} {d o : Nat} {cc : ByteArray} {nL n0 : Nat} {ad0 : Nat → Nat} {stop : Nat}
theorem mkR_sound {call : Nat → Nat → List mkC → Option (List mkC × Nat × Nat)} (hcall : ∀ j k hs t, call j k hs = some t → MK l d j k hs t.1 t.2.1 t.2.2) (hC : mkT p R s m args meth c γ A d o cc nL) : ∀ f pc ls st hs cl sl r, mkR call o cc stop f pc ls st hs cl sl = some r → r.2.2.2.2.1 ≤ R.cells → r.2.2.2.2.2 ≤ R.slots →
    (∀ (ad : Nat → Nat) (H : Heap) (locs : List Loc) (ls' : Array Slot), mkH s γ A nL n0 ad0 ad H locs ls' r.2.1 r.2.2.2.1 → W p l e R s m args below meth c H locs r.2.2.2.2.1 r.2.2.2.2.2 Z (F0 m r.1 ls' (r.2.2.1.map (rv ad)))) →
    ∀ (ad : Nat → Nat) (H : Heap) (locs : List Loc) (ls' : Array Slot), mkH s γ A nL n0 ad0 ad H locs ls' ls hs → W p l e R s m args below meth c H locs cl sl Z (F0 m pc ls' (st.map (rv ad))) := by
  intro f
  induction f with
  | zero => intro pc ls st hs cl sl r h; rw [mkR] at h; cases h
  | succ f ih =>
    intro pc ls st hs cl sl r h hc1 hc2 hG ad H locs ls' hH
    rw [mkR_s] at h
    split at h
    · cases h; exact hG ad H locs ls' hH
    · split at h
      · next q hq =>
        split at h
        · cases h; exact hG ad H locs ls' hH
        · split at h
          · next hlen =>
            obtain ⟨i, len⟩ := q
            split at h
            · next r2 hr2 =>
              obtain ⟨a, b⟩ := mkR_mono _ _ _ _ _ _ _ _ _ _ _ _ h
              exact z_step hC hq hlen hr2 (by omega) (by omega) (ih _ _ _ _ _ _ _ h hc1 hc2 hG) hH
            · next r2 hr2 =>
              split at h
              · next t ht =>
                split at h
                · next hw =>
                  obtain ⟨a, b⟩ := mkR_mono _ _ _ _ _ _ _ _ _ _ _ _ h
                  obtain ⟨x, rfl, rfl, k3, k4⟩ := mkS_call hr2
                  have hq : decode cc pc = .ok (.invokespecial x, 3) := by rw [hq, show len = 3 from hlen]
                  exact z_call hC hq k4 (hcall _ _ _ _ ht) k3 hw.1 hw.2 (by omega) (by omega) (ih _ _ _ _ _ _ _ h hc1 hc2 hG) hH
                · cases h
              · cases h
            · cases h
          · cases h
      · cases h
end MS5
theorem isRetAt_of {cc : ByteArray} {pc : Nat} (h : isRetAt cc pc = true) : decode cc pc = .ok (.return_, 1) := by
  unfold isRetAt at h
  split at h
  · next q hq =>
    obtain ⟨i, len⟩ := q
    obtain ⟨h1, h2⟩ := Bool.and_eq_true_iff.mp h
    dsimp only at h1 h2
    have h2 : len = 1 := beq_iff_eq.mp h2
    subst h2
    unfold isRet at h1
    split at h1
    · exact hq
    · cases h1
  · cases h
theorem mkF_sound (l : Launch) : ∀ d j k hs t, mkF d j k hs = some t → MK l d j k hs t.1 t.2.1 t.2.2 := by
  intro d
  induction d with
  | zero => intro j k hs t h; rw [mkF] at h; cases h
  | succ d ih =>
    intro j k hs t h
    rw [mkF] at h
    split at h
    · next q hq =>
      split at h
      · next r hr =>
        split at h
        · next hw =>
          cases h
          obtain ⟨w1, w2, w3⟩ := hw
          obtain ⟨⟨i1, i2, i3, i4⟩, i5, i6, ⟨i7, i8⟩, i9, i10, i11⟩ := kct_ok j q hq
          refine ⟨q, hq, fun γ ad sz => ?_⟩
          refine Met.ofW (cc := q.2.1) (maxL := q.2.2) (ret := none) i1 rfl ?_
          intro p e s m args below meth c s₁ B hml hv
          obtain ⟨rfl, hsz, hP, hK, hD0⟩ := hv
          have hts0 := atoms_spec (ws := Cond.code q.1 q.2.1 q.2.2 none :: gw) B.pre
          have hts : ∀ w ∈ gw, w.before [Value.ref (ad k)].toArray s = true := fun w hw => hts0 w (List.mem_cons_of_mem _ hw)
          have hown : s.vm.findClass q.1.cls = some m.cls := findClass_of_methodNamed B.named
          have hlocks := B.notSynchronized
          have hin : meth.name = "<init>" := ((name_of_methodNamed B.named B.method).1).trans i6
          subst hsz
          have hC : mkT p { frames := d + 1, cells := r.2.2.2.2.1, slots := r.2.2.2.2.2, locals := 100 * (d + 1) } s m [Value.ref (ad k)].toArray meth c γ (va_A (mkW γ ad hs) s.heap.size) d j q.2.1 q.2.2 :=
            ⟨⟨B.exec, B.bytes, hml, by rw [← i5]; exact hown⟩, hts, hK, fun q hq => Or.inr hq, ⟨Nat.le_refl _, Nat.le_refl _⟩, fun _ => hin⟩
          rw [lg_entry_eq]
          have hlo := ent_lo ad [.ref k] q.2.2 i7
          refine mkR_sound (n0 := hs.length) (ad0 := ad) ih hC 400 0 _ [] hs 0 0 r hr (Nat.le_refl _) (Nat.le_refl _) (fun ad' H locs ls' hH => ?_) ad s.heap [] _ ⟨hP, hD0.self, va_S.rf, hlo, fun _ _ => rfl, Nat.le_refl _⟩
          obtain ⟨hP1, hD1, hS1, hl1, hag1, hn1⟩ := hH
          rw [List.isEmpty_iff.mp w1]
          exact W.vret B.exec B.bytes B.returns (fun t ht hW => ⟨⟨ad', rfl, hag1, by rw [ht]; exact hP1, hD1⟩, hS1.F ht⟩) hS1.2.2 (isRetAt_of w2)
        · cases h
      · cases h
    · cases h
