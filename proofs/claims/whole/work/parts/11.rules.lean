/-! one rewriting rule an instruction, over the abstract machine -/
section RUL
variable {l : Launch} {d : Nat} {sc : Option (Nat × (Nat → Int32))} {o : Nat} {cc : ByteArray} {ty : Option FieldType} {Q : Option Value → aW → Prop} {pc : Nat} {ls : aL} {st : List Value} {σ : aW}
theorem q_iconst {n : Int} {v : Int32} (hd : decode cc pc = .ok (.iconst n, 1)) (hv : Int32.ofInt n = v) : aE l d sc o cc ty Q pc ls st σ = aE l d sc o cc ty Q (pc + 1) ls (.int v :: st) σ := by rw [← hv]; exact E_of hd rfl _ _ _
theorem q_bipush {n : Int} {v : Int32} (hd : decode cc pc = .ok (.bipush n, 2)) (hv : (Int8.ofInt n).toInt32 = v) : aE l d sc o cc ty Q pc ls st σ = aE l d sc o cc ty Q (pc + 2) ls (.int v :: st) σ := by rw [← hv]; exact E_of hd rfl _ _ _
theorem q_sipush {n : Int} {v : Int32} (hd : decode cc pc = .ok (.sipush n, 3)) (hv : (Int16.ofInt n).toInt32 = v) : aE l d sc o cc ty Q pc ls st σ = aE l d sc o cc ty Q (pc + 3) ls (.int v :: st) σ := by rw [← hv]; exact E_of hd rfl _ _ _
theorem q_lconst {n : Fin 2} {v : Int64} (hd : decode cc pc = .ok (.lconst n, 1)) (hv : Int64.ofNat (n : Nat) = v) : aE l d sc o cc ty Q pc ls st σ = aE l d sc o cc ty Q (pc + 1) ls (.long v :: st) σ := by rw [← hv]; exact E_of hd rfl _ _ _
theorem q_ldc {n : Nat} {v : Int32} (hd : decode cc pc = .ok (.ldc n, 2)) (hv : kl o n = some v) : aE l d sc o cc ty Q pc ls st σ = aE l d sc o cc ty Q (pc + 2) ls (.int v :: st) σ := by
  rw [E_of hd rfl]
  show XR l d Q pc ls σ _ ((kl o n).bind fun v => nx (pc + 2) ls (.int v :: st) σ) = _
  rw [hv]; rfl
theorem q_ldcw {n : Nat} {v : Int32} (hd : decode cc pc = .ok (.ldc_w n, 3)) (hv : kl o n = some v) : aE l d sc o cc ty Q pc ls st σ = aE l d sc o cc ty Q (pc + 3) ls (.int v :: st) σ := by
  rw [E_of hd rfl]
  show XR l d Q pc ls σ _ ((kl o n).bind fun v => nx (pc + 3) ls (.int v :: st) σ) = _
  rw [hv]; rfl
theorem q_ldc2 {n : Nat} {v : Int64} (hd : decode cc pc = .ok (.ldc2_w n, 3)) (hv : kL o n = some v) : aE l d sc o cc ty Q pc ls st σ = aE l d sc o cc ty Q (pc + 3) ls (.long v :: st) σ := by
  rw [E_of hd rfl]
  show XR l d Q pc ls σ _ ((kL o n).bind fun v => nx (pc + 3) ls (.long v :: st) σ) = _
  rw [hv]; rfl
theorem q_iload_n {k : Fin 4} {x : Int32} (hd : decode cc pc = .ok (.iload_n k, 1)) (hl : (ls[(k : Nat)]?).join = some (.int x)) : aE l d sc o cc ty Q pc ls st σ = aE l d sc o cc ty Q (pc + 1) ls (.int x :: st) σ := by
  rw [E_of hd rfl]
  show XR l d Q pc ls σ _ (ldI k (pc + 1) ls st σ) = _
  unfold ldI
  rw [hl]; rfl
theorem q_iload {k : Nat} {x : Int32} (hd : decode cc pc = .ok (.iload k, 2)) (hl : (ls[k]?).join = some (.int x)) : aE l d sc o cc ty Q pc ls st σ = aE l d sc o cc ty Q (pc + 2) ls (.int x :: st) σ := by
  rw [E_of hd rfl]
  show XR l d Q pc ls σ _ (ldI k (pc + 2) ls st σ) = _
  unfold ldI
  rw [hl]; rfl
theorem q_lload_n {k : Fin 4} {x : Int64} (hd : decode cc pc = .ok (.lload_n k, 1)) (hl : (ls[(k : Nat)]?).join = some (.long x)) : aE l d sc o cc ty Q pc ls st σ = aE l d sc o cc ty Q (pc + 1) ls (.long x :: st) σ := by
  rw [E_of hd rfl]
  show XR l d Q pc ls σ _ (ldL k (pc + 1) ls st σ) = _
  unfold ldL
  rw [hl]; rfl
theorem q_lload {k : Nat} {x : Int64} (hd : decode cc pc = .ok (.lload k, 2)) (hl : (ls[k]?).join = some (.long x)) : aE l d sc o cc ty Q pc ls st σ = aE l d sc o cc ty Q (pc + 2) ls (.long x :: st) σ := by
  rw [E_of hd rfl]
  show XR l d Q pc ls σ _ (ldL k (pc + 2) ls st σ) = _
  unfold ldL
  rw [hl]; rfl
theorem q_aload_n {k : Fin 4} {x : Nat} (hd : decode cc pc = .ok (.aload_n k, 1)) (hl : (ls[(k : Nat)]?).join = some (.ref x)) : aE l d sc o cc ty Q pc ls st σ = aE l d sc o cc ty Q (pc + 1) ls (.ref x :: st) σ := by
  rw [E_of hd rfl]
  show XR l d Q pc ls σ _ (ldA k (pc + 1) ls st σ) = _
  unfold ldA
  rw [hl]; rfl
theorem q_aload {k : Nat} {x : Nat} (hd : decode cc pc = .ok (.aload k, 2)) (hl : (ls[k]?).join = some (.ref x)) : aE l d sc o cc ty Q pc ls st σ = aE l d sc o cc ty Q (pc + 2) ls (.ref x :: st) σ := by
  rw [E_of hd rfl]
  show XR l d Q pc ls σ _ (ldA k (pc + 2) ls st σ) = _
  unfold ldA
  rw [hl]; rfl
theorem q_istore_n {k : Fin 4} {x : Int32} {ls2 : aL} (hd : decode cc pc = .ok (.istore_n k, 1)) (h1 : lok ls k = true) (h2 : (k : Nat) < ls.length) (h3 : ls.set k (some (.int x)) = ls2) : aE l d sc o cc ty Q pc ls (.int x :: st) σ = aE l d sc o cc ty Q (pc + 1) ls2 st σ := by
  rw [E_of hd rfl, ← h3]
  show XR l d Q pc ls σ _ (stI k (pc + 1) ls (.int x :: st) σ) = _
  unfold stI
  dsimp only
  rw [if_pos ⟨h1, h2⟩]; rfl
theorem q_istore {k : Nat} {x : Int32} {ls2 : aL} (hd : decode cc pc = .ok (.istore k, 2)) (h1 : lok ls k = true) (h2 : k < ls.length) (h3 : ls.set k (some (.int x)) = ls2) : aE l d sc o cc ty Q pc ls (.int x :: st) σ = aE l d sc o cc ty Q (pc + 2) ls2 st σ := by
  rw [E_of hd rfl, ← h3]
  show XR l d Q pc ls σ _ (stI k (pc + 2) ls (.int x :: st) σ) = _
  unfold stI
  dsimp only
  rw [if_pos ⟨h1, h2⟩]; rfl
theorem q_lstore_n {k : Fin 4} {x : Int64} {ls2 : aL} (hd : decode cc pc = .ok (.lstore_n k, 1)) (h1 : lok ls k = true) (h2 : (k : Nat) + 1 < ls.length) (h3 : (ls.set k (some (.long x))).set (k + 1) none = ls2) : aE l d sc o cc ty Q pc ls (.long x :: st) σ = aE l d sc o cc ty Q (pc + 1) ls2 st σ := by
  rw [E_of hd rfl, ← h3]
  show XR l d Q pc ls σ _ (stL k (pc + 1) ls (.long x :: st) σ) = _
  unfold stL
  dsimp only
  rw [if_pos ⟨h1, h2⟩]; rfl
theorem q_lstore {k : Nat} {x : Int64} {ls2 : aL} (hd : decode cc pc = .ok (.lstore k, 2)) (h1 : lok ls k = true) (h2 : k + 1 < ls.length) (h3 : (ls.set k (some (.long x))).set (k + 1) none = ls2) : aE l d sc o cc ty Q pc ls (.long x :: st) σ = aE l d sc o cc ty Q (pc + 2) ls2 st σ := by
  rw [E_of hd rfl, ← h3]
  show XR l d Q pc ls σ _ (stL k (pc + 2) ls (.long x :: st) σ) = _
  unfold stL
  dsimp only
  rw [if_pos ⟨h1, h2⟩]; rfl
theorem q_astore_n {k : Fin 4} {x : Nat} {ls2 : aL} (hd : decode cc pc = .ok (.astore_n k, 1)) (h1 : lok ls k = true) (h2 : (k : Nat) < ls.length) (h3 : ls.set k (some (.ref x)) = ls2) : aE l d sc o cc ty Q pc ls (.ref x :: st) σ = aE l d sc o cc ty Q (pc + 1) ls2 st σ := by
  rw [E_of hd rfl, ← h3]
  show XR l d Q pc ls σ _ (stA k (pc + 1) ls (.ref x :: st) σ) = _
  unfold stA
  dsimp only
  rw [if_pos ⟨h1, h2⟩]; rfl
theorem q_iinc {k : Nat} {n : Int} {x v : Int32} {ls2 : aL} (hd : decode cc pc = .ok (.iinc k n, 3)) (hl : (ls[k]?).join = some (.int x)) (h1 : lok ls k = true) (h2 : k < ls.length) (hv : Int32.ofInt n = v) (h3 : ls.set k (some (.int (x + v))) = ls2) : aE l d sc o cc ty Q pc ls st σ = aE l d sc o cc ty Q (pc + 3) ls2 st σ := by
  rw [E_of hd rfl, ← h3, ← hv]
  show XR l d Q pc ls σ _ (inc k n pc ls st σ) = _
  unfold inc
  rw [hl]
  dsimp only
  rw [if_pos ⟨h1, h2⟩]; rfl
theorem q_iadd {x y : Int32} (hd : decode cc pc = .ok (.iadd, 1)) : aE l d sc o cc ty Q pc ls (.int y :: .int x :: st) σ = aE l d sc o cc ty Q (pc + 1) ls (.int (x + y) :: st) σ := E_of hd rfl _ _ _
theorem q_isub {x y : Int32} (hd : decode cc pc = .ok (.isub, 1)) : aE l d sc o cc ty Q pc ls (.int y :: .int x :: st) σ = aE l d sc o cc ty Q (pc + 1) ls (.int (x - y) :: st) σ := E_of hd rfl _ _ _
theorem q_imul {x y : Int32} (hd : decode cc pc = .ok (.imul, 1)) : aE l d sc o cc ty Q pc ls (.int y :: .int x :: st) σ = aE l d sc o cc ty Q (pc + 1) ls (.int (x * y) :: st) σ := E_of hd rfl _ _ _
theorem q_iand {x y : Int32} (hd : decode cc pc = .ok (.iand, 1)) : aE l d sc o cc ty Q pc ls (.int y :: .int x :: st) σ = aE l d sc o cc ty Q (pc + 1) ls (.int (x &&& y) :: st) σ := E_of hd rfl _ _ _
theorem q_ior {x y : Int32} (hd : decode cc pc = .ok (.ior, 1)) : aE l d sc o cc ty Q pc ls (.int y :: .int x :: st) σ = aE l d sc o cc ty Q (pc + 1) ls (.int (x ||| y) :: st) σ := E_of hd rfl _ _ _
theorem q_ixor {x y : Int32} (hd : decode cc pc = .ok (.ixor, 1)) : aE l d sc o cc ty Q pc ls (.int y :: .int x :: st) σ = aE l d sc o cc ty Q (pc + 1) ls (.int (x ^^^ y) :: st) σ := E_of hd rfl _ _ _
theorem q_ishl {x y : Int32} (hd : decode cc pc = .ok (.ishl, 1)) : aE l d sc o cc ty Q pc ls (.int y :: .int x :: st) σ = aE l d sc o cc ty Q (pc + 1) ls (.int (x <<< (y &&& 31)) :: st) σ := E_of hd rfl _ _ _
theorem q_ishr {x y : Int32} (hd : decode cc pc = .ok (.ishr, 1)) : aE l d sc o cc ty Q pc ls (.int y :: .int x :: st) σ = aE l d sc o cc ty Q (pc + 1) ls (.int (x >>> (y &&& 31)) :: st) σ := E_of hd rfl _ _ _
theorem q_iushr {x y : Int32} (hd : decode cc pc = .ok (.iushr, 1)) : aE l d sc o cc ty Q pc ls (.int y :: .int x :: st) σ = aE l d sc o cc ty Q (pc + 1) ls (.int (x.toUInt32 >>> (y.toUInt32 &&& Int32.toUInt32 31)).toInt32 :: st) σ := E_of hd rfl _ _ _
theorem q_divI {x y : Int32} {f : Int32 → Int32 → Int32} {i : Instr} (hd : decode cc pc = .ok (i, 1)) (hl : 1 = lenI i 1) (hs : ∀ st, stepA sc o ty i pc ls st σ = divI f pc ls st σ) : aE l d sc o cc ty Q pc ls (.int y :: .int x :: st) σ = (¬ y = 0 ∧ aE l d sc o cc ty Q (pc + 1) ls (.int (f x y) :: st) σ) := by
  rw [E_of hd hl, hs]
  unfold divI
  dsimp only
  by_cases hy : y = 0
  · rw [if_pos hy]
    exact propext ⟨fun h => h.elim, fun h => absurd hy h.1⟩
  · rw [if_neg hy]
    exact propext ⟨fun h => ⟨hy, h⟩, fun h => h.2⟩
theorem q_idiv {x y : Int32} (hd : decode cc pc = .ok (.idiv, 1)) : aE l d sc o cc ty Q pc ls (.int y :: .int x :: st) σ = (¬ y = 0 ∧ aE l d sc o cc ty Q (pc + 1) ls (.int (x / y) :: st) σ) := q_divI (f := fun x y => x / y) hd rfl (fun _ => rfl)
theorem q_irem {x y : Int32} (hd : decode cc pc = .ok (.irem, 1)) : aE l d sc o cc ty Q pc ls (.int y :: .int x :: st) σ = (¬ y = 0 ∧ aE l d sc o cc ty Q (pc + 1) ls (.int (x - x / y * y) :: st) σ) := q_divI (f := fun x y => x - x / y * y) hd rfl (fun _ => rfl)
theorem q_divL {x y : Int64} {f : Int64 → Int64 → Int64} {i : Instr} (hd : decode cc pc = .ok (i, 1)) (hl : 1 = lenI i 1) (hs : ∀ st, stepA sc o ty i pc ls st σ = divL f pc ls st σ) : aE l d sc o cc ty Q pc ls (.long y :: .long x :: st) σ = (¬ y = 0 ∧ aE l d sc o cc ty Q (pc + 1) ls (.long (f x y) :: st) σ) := by
  rw [E_of hd hl, hs]
  unfold divL
  dsimp only
  by_cases hy : y = 0
  · rw [if_pos hy]
    exact propext ⟨fun h => h.elim, fun h => absurd hy h.1⟩
  · rw [if_neg hy]
    exact propext ⟨fun h => ⟨hy, h⟩, fun h => h.2⟩
theorem q_ldiv {x y : Int64} (hd : decode cc pc = .ok (.ldiv, 1)) : aE l d sc o cc ty Q pc ls (.long y :: .long x :: st) σ = (¬ y = 0 ∧ aE l d sc o cc ty Q (pc + 1) ls (.long (x / y) :: st) σ) := q_divL (f := fun x y => x / y) hd rfl (fun _ => rfl)
theorem q_lrem {x y : Int64} (hd : decode cc pc = .ok (.lrem, 1)) : aE l d sc o cc ty Q pc ls (.long y :: .long x :: st) σ = (¬ y = 0 ∧ aE l d sc o cc ty Q (pc + 1) ls (.long (x - x / y * y) :: st) σ) := q_divL (f := fun x y => x - x / y * y) hd rfl (fun _ => rfl)
theorem q_ladd {x y : Int64} (hd : decode cc pc = .ok (.ladd, 1)) : aE l d sc o cc ty Q pc ls (.long y :: .long x :: st) σ = aE l d sc o cc ty Q (pc + 1) ls (.long (x + y) :: st) σ := E_of hd rfl _ _ _
theorem q_lmul {x y : Int64} (hd : decode cc pc = .ok (.lmul, 1)) : aE l d sc o cc ty Q pc ls (.long y :: .long x :: st) σ = aE l d sc o cc ty Q (pc + 1) ls (.long (x * y) :: st) σ := E_of hd rfl _ _ _
theorem q_land {x y : Int64} (hd : decode cc pc = .ok (.land, 1)) : aE l d sc o cc ty Q pc ls (.long y :: .long x :: st) σ = aE l d sc o cc ty Q (pc + 1) ls (.long (x &&& y) :: st) σ := E_of hd rfl _ _ _
theorem q_i2l {x : Int32} (hd : decode cc pc = .ok (.i2l, 1)) : aE l d sc o cc ty Q pc ls (.int x :: st) σ = aE l d sc o cc ty Q (pc + 1) ls (.long x.toInt64 :: st) σ := E_of hd rfl _ _ _
theorem q_l2i {x : Int64} (hd : decode cc pc = .ok (.l2i, 1)) : aE l d sc o cc ty Q pc ls (.long x :: st) σ = aE l d sc o cc ty Q (pc + 1) ls (.int x.toInt32 :: st) σ := E_of hd rfl _ _ _
theorem q_lcmp {x y : Int64} (hd : decode cc pc = .ok (.lcmp, 1)) : aE l d sc o cc ty Q pc ls (.long y :: .long x :: st) σ = aE l d sc o cc ty Q (pc + 1) ls (.int (lg_cmp x y) :: st) σ := E_of hd rfl _ _ _
theorem q_dup {v : Value} (hd : decode cc pc = .ok (.dup, 1)) (hv : v.category = 1) : aE l d sc o cc ty Q pc ls (v :: st) σ = aE l d sc o cc ty Q (pc + 1) ls (v :: v :: st) σ := by
  rw [E_of hd rfl]
  show XR l d Q pc ls σ _ (du1 pc ls (v :: st) σ) = _
  unfold du1
  dsimp only
  rw [if_pos hv]; rfl
theorem q_pop {v : Value} (hd : decode cc pc = .ok (.pop, 1)) (hv : v.category = 1) : aE l d sc o cc ty Q pc ls (v :: st) σ = aE l d sc o cc ty Q (pc + 1) ls st σ := by
  rw [E_of hd rfl]
  show XR l d Q pc ls σ _ (pp1 pc ls (v :: st) σ) = _
  unfold pp1
  dsimp only
  rw [if_pos hv]; rfl
theorem q_dup2 {v w : Value} (hd : decode cc pc = .ok (.dup2, 1)) (hv : v.category = 1) (hw : w.category = 1) : aE l d sc o cc ty Q pc ls (v :: w :: st) σ = aE l d sc o cc ty Q (pc + 1) ls (v :: w :: v :: w :: st) σ := by
  rw [E_of hd rfl]
  show XR l d Q pc ls σ _ (du2 pc ls (v :: w :: st) σ) = _
  unfold du2
  dsimp only
  rw [if_pos ⟨hv, hw⟩]; rfl
theorem q_br {b : Bool} {off : Int} {t : Nat} {r : List Value} {P : Prop} (h : P = XR l d Q pc ls σ (aE l d sc o cc ty Q) (brI b off pc ls r σ)) (ht : (pc : Int) + off = (t : Int)) : P = if b = true then aE l d sc o cc ty Q t ls r σ else aE l d sc o cc ty Q (pc + 3) ls r σ := by
  rw [h]
  unfold brI
  rw [if_pos (by omega), show tg pc off = t by unfold tg; omega]
  cases b <;> rfl
theorem q_if1 {c : ClassFile.Cond} {off : Int} {t : Nat} {x : Int32} (hd : decode cc pc = .ok (.ifCond c off, 3)) (ht : (pc : Int) + off = (t : Int)) : aE l d sc o cc ty Q pc ls (.int x :: st) σ = if ccI c x 0 = true then aE l d sc o cc ty Q t ls st σ else aE l d sc o cc ty Q (pc + 3) ls st σ := q_br (E_of hd rfl _ _ _) ht
theorem q_if2 {c : ClassFile.Cond} {off : Int} {t : Nat} {x y : Int32} (hd : decode cc pc = .ok (.if_icmp c off, 3)) (ht : (pc : Int) + off = (t : Int)) : aE l d sc o cc ty Q pc ls (.int y :: .int x :: st) σ = if ccI c x y = true then aE l d sc o cc ty Q t ls st σ else aE l d sc o cc ty Q (pc + 3) ls st σ := q_br (E_of hd rfl _ _ _) ht
theorem q_goto {off : Int} {t : Nat} (hd : decode cc pc = .ok (.goto off, 3)) (ht : (pc : Int) + off = (t : Int)) : aE l d sc o cc ty Q pc ls st σ = aE l d sc o cc ty Q t ls st σ := by
  have := q_br (l := l) (d := d) (sc := sc) (o := o) (cc := cc) (ty := ty) (Q := Q) (b := true) (r := st) (E_of hd rfl ls st σ) ht
  rw [if_pos rfl] at this
  exact this
theorem q_ifnull {off : Int} {a : Nat} {t : Nat} (hd : decode cc pc = .ok (.ifnull off, 3)) (ht : (pc : Int) + off = (t : Int)) : aE l d sc o cc ty Q pc ls (.ref a :: st) σ = aE l d sc o cc ty Q (pc + 3) ls st σ := by
  have := q_br (l := l) (d := d) (sc := sc) (o := o) (cc := cc) (ty := ty) (Q := Q) (b := false) (r := st) (E_of hd rfl ls (.ref a :: st) σ) ht
  rw [if_neg (by decide)] at this
  exact this
theorem q_ifnonnull {off : Int} {a : Nat} {t : Nat} (hd : decode cc pc = .ok (.ifnonnull off, 3)) (ht : (pc : Int) + off = (t : Int)) : aE l d sc o cc ty Q pc ls (.ref a :: st) σ = aE l d sc o cc ty Q t ls st σ := by
  have := q_br (l := l) (d := d) (sc := sc) (o := o) (cc := cc) (ty := ty) (Q := Q) (b := true) (r := st) (E_of hd rfl ls (.ref a :: st) σ) ht
  rw [if_pos rfl] at this
  exact this
theorem dI {α : Prop} {a b : Prop} [Decidable α] : (if decide α = true then a else b) = if α then a else b := by
  by_cases h : α <;> simp [h]
theorem dN {α : Prop} {a b : Prop} [Decidable α] : (if (!decide α) = true then a else b) = if α then b else a := by
  by_cases h : α <;> simp [h]
theorem q_eq1 {off : Int} {t : Nat} {x : Int32} (hd : decode cc pc = .ok (.ifCond .eq off, 3)) (ht : (pc : Int) + off = (t : Int)) : aE l d sc o cc ty Q pc ls (.int x :: st) σ = if x = 0 then aE l d sc o cc ty Q t ls st σ else aE l d sc o cc ty Q (pc + 3) ls st σ := (q_if1 hd ht).trans dI
theorem q_ne1 {off : Int} {t : Nat} {x : Int32} (hd : decode cc pc = .ok (.ifCond .ne off, 3)) (ht : (pc : Int) + off = (t : Int)) : aE l d sc o cc ty Q pc ls (.int x :: st) σ = if x = 0 then aE l d sc o cc ty Q (pc + 3) ls st σ else aE l d sc o cc ty Q t ls st σ := (q_if1 hd ht).trans dN
theorem q_lt1 {off : Int} {t : Nat} {x : Int32} (hd : decode cc pc = .ok (.ifCond .lt off, 3)) (ht : (pc : Int) + off = (t : Int)) : aE l d sc o cc ty Q pc ls (.int x :: st) σ = if x < 0 then aE l d sc o cc ty Q t ls st σ else aE l d sc o cc ty Q (pc + 3) ls st σ := (q_if1 hd ht).trans dI
theorem q_ge1 {off : Int} {t : Nat} {x : Int32} (hd : decode cc pc = .ok (.ifCond .ge off, 3)) (ht : (pc : Int) + off = (t : Int)) : aE l d sc o cc ty Q pc ls (.int x :: st) σ = if 0 ≤ x then aE l d sc o cc ty Q t ls st σ else aE l d sc o cc ty Q (pc + 3) ls st σ := (q_if1 hd ht).trans dI
theorem q_gt1 {off : Int} {t : Nat} {x : Int32} (hd : decode cc pc = .ok (.ifCond .gt off, 3)) (ht : (pc : Int) + off = (t : Int)) : aE l d sc o cc ty Q pc ls (.int x :: st) σ = if 0 < x then aE l d sc o cc ty Q t ls st σ else aE l d sc o cc ty Q (pc + 3) ls st σ := (q_if1 hd ht).trans dI
theorem q_le1 {off : Int} {t : Nat} {x : Int32} (hd : decode cc pc = .ok (.ifCond .le off, 3)) (ht : (pc : Int) + off = (t : Int)) : aE l d sc o cc ty Q pc ls (.int x :: st) σ = if x ≤ 0 then aE l d sc o cc ty Q t ls st σ else aE l d sc o cc ty Q (pc + 3) ls st σ := (q_if1 hd ht).trans dI
theorem q_eq2 {off : Int} {t : Nat} {x y : Int32} (hd : decode cc pc = .ok (.if_icmp .eq off, 3)) (ht : (pc : Int) + off = (t : Int)) : aE l d sc o cc ty Q pc ls (.int y :: .int x :: st) σ = if x = y then aE l d sc o cc ty Q t ls st σ else aE l d sc o cc ty Q (pc + 3) ls st σ := (q_if2 hd ht).trans dI
theorem q_ne2 {off : Int} {t : Nat} {x y : Int32} (hd : decode cc pc = .ok (.if_icmp .ne off, 3)) (ht : (pc : Int) + off = (t : Int)) : aE l d sc o cc ty Q pc ls (.int y :: .int x :: st) σ = if x = y then aE l d sc o cc ty Q (pc + 3) ls st σ else aE l d sc o cc ty Q t ls st σ := (q_if2 hd ht).trans dN
theorem q_lt2 {off : Int} {t : Nat} {x y : Int32} (hd : decode cc pc = .ok (.if_icmp .lt off, 3)) (ht : (pc : Int) + off = (t : Int)) : aE l d sc o cc ty Q pc ls (.int y :: .int x :: st) σ = if x < y then aE l d sc o cc ty Q t ls st σ else aE l d sc o cc ty Q (pc + 3) ls st σ := (q_if2 hd ht).trans dI
theorem q_ge2 {off : Int} {t : Nat} {x y : Int32} (hd : decode cc pc = .ok (.if_icmp .ge off, 3)) (ht : (pc : Int) + off = (t : Int)) : aE l d sc o cc ty Q pc ls (.int y :: .int x :: st) σ = if y ≤ x then aE l d sc o cc ty Q t ls st σ else aE l d sc o cc ty Q (pc + 3) ls st σ := (q_if2 hd ht).trans dI
theorem q_gt2 {off : Int} {t : Nat} {x y : Int32} (hd : decode cc pc = .ok (.if_icmp .gt off, 3)) (ht : (pc : Int) + off = (t : Int)) : aE l d sc o cc ty Q pc ls (.int y :: .int x :: st) σ = if y < x then aE l d sc o cc ty Q t ls st σ else aE l d sc o cc ty Q (pc + 3) ls st σ := (q_if2 hd ht).trans dI
theorem q_le2 {off : Int} {t : Nat} {x y : Int32} (hd : decode cc pc = .ok (.if_icmp .le off, 3)) (ht : (pc : Int) + off = (t : Int)) : aE l d sc o cc ty Q pc ls (.int y :: .int x :: st) σ = if x ≤ y then aE l d sc o cc ty Q t ls st σ else aE l d sc o cc ty Q (pc + 3) ls st σ := (q_if2 hd ht).trans dI
def icl : List (List Bool) := [[false, false, false], [true, false, false], [true, true, true, true, true, true, false, false, false, false, false], [true], [true, true, false], [false, true, true, false, true, true], [true, false, false], [true, true, true, true, true, true, true, false, false], [false, true, false, false, false], [false, false, false, false, false, false, false, false, false], [true, true, true, true, true, false, false, false, true, false, false, true, false, true, true, true, true, true, false, true, false, false, false, false, true, false, true, false, false, false, false, true, true, false, false, true, false, false, false, false]]
theorem icl_all : shl.all (fun q => match q with
  | .inl q => decide (icl[q.1]? = some (q.2.map Option.isNone))
  | _ => true) = true := by decide +kernel
def isI (ci k : Nat) : Option Bool := (icl.getD ci []).getD k true |> fun b => if k < (icl.getD ci []).length then some b else none
theorem isI_spec {a ci k : Nat} {b : Bool} (h : cls a = ci) (hc : ci ≠ 99) (hb : isI ci k = some b) : (b = true → slt a k = some none) ∧ (b = false → slt a k = some (some (rf a k))) := by
  obtain ⟨sl, hs⟩ := cls_spec h hc
  have h1 := List.all_eq_true.mp icl_all _ (List.mem_of_getElem? hs)
  have h2 : icl[ci]? = some (sl.map Option.isNone) := of_decide_eq_true h1
  have h3 : icl.getD ci [] = sl.map Option.isNone := by simp [List.getD, h2]
  unfold isI at hb
  rw [h3] at hb
  dsimp only at hb
  split at hb
  · next hk =>
    simp at hk
    have h4 : slt a k = some (sl[k]) := by rw [slt_at hs]; simp [hk]
    have h5 : (sl[k]).isNone = b := by
      have := Option.some.inj hb
      simpa [List.getD, hk] using this
    cases hv : sl[k] with
    | none =>
      rw [hv] at h5 h4
      refine ⟨fun _ => h4, fun q => ?_⟩
      rw [q] at h5
      cases h5
    | some t =>
      rw [hv] at h5 h4
      refine ⟨fun q => ?_, fun _ => ?_⟩
      · rw [q] at h5
        cases h5
      · unfold rf
        rw [h4]
  · cases hb
theorem q_gtI {i ci k a : Nat} (hd : decode cc pc = .ok (.getfield i, 3)) (hf : fl o i = some (ci, k)) (hc : ci ≠ 99) (hb : isI ci k = some true) (h : cls a = ci) : aE l d sc o cc ty Q pc ls (.ref a :: st) σ = aE l d sc o cc ty Q (pc + 3) ls (.int (σ a k) :: st) σ := by
  rw [E_of hd rfl]
  show XR l d Q pc ls σ _ (gtF o i pc ls (.ref a :: st) σ) = _
  unfold gtF
  simp only [hf, h, if_true, (isI_spec h hc hb).1 rfl]
  rfl
theorem q_gtR {i ci k a : Nat} (hd : decode cc pc = .ok (.getfield i, 3)) (hf : fl o i = some (ci, k)) (hc : ci ≠ 99) (hb : isI ci k = some false) (h : cls a = ci) : aE l d sc o cc ty Q pc ls (.ref a :: st) σ = aE l d sc o cc ty Q (pc + 3) ls (.ref (rf a k) :: st) σ := by
  rw [E_of hd rfl]
  show XR l d Q pc ls σ _ (gtF o i pc ls (.ref a :: st) σ) = _
  unfold gtF
  simp only [hf, h, if_true, (isI_spec h hc hb).2 rfl]
  rfl
theorem q_pt {i ci k a : Nat} {v : Int32} (hd : decode cc pc = .ok (.putfield i, 3)) (hf : fl o i = some (ci, k)) (hc : ci ≠ 99) (hb : isI ci k = some true) (h : cls a = ci) : aE l d sc o cc ty Q pc ls (.int v :: .ref a :: st) σ = aE l d sc o cc ty Q (pc + 3) ls st (su σ a k v) := by
  rw [E_of hd rfl]
  show XR l d Q pc ls σ _ (ptF o i pc ls (.int v :: .ref a :: st) σ) = _
  unfold ptF
  simp only [hf]
  rw [if_pos ⟨h, (isI_spec h hc hb).1 rfl⟩]
  rfl
theorem q_inb {i : Int32} {n : Nat} {P : Prop} {r : Option aR} {K : Nat → aL → List Value → aW → Prop} (h : XR l d Q pc ls σ K r = P) : XR l d Q pc ls σ K (if i < 0 ∨ n ≤ i.toNatClampNeg then none else r) = (vp_in i n ∧ P) := by
  by_cases hi : i < 0 ∨ n ≤ i.toNatClampNeg
  · rw [if_pos hi]
    exact propext ⟨fun q => q.elim, fun q => absurd hi q.1⟩
  · rw [if_neg hi, h]
    exact propext ⟨fun q => ⟨hi, q⟩, fun q => q.2⟩
theorem q_iald {i : Int32} {a : Nat} (hd : decode cc pc = .ok (.iaload, 1)) (h : akd a = 0) : aE l d sc o cc ty Q pc ls (.int i :: .ref a :: st) σ = (vp_in i (aln a) ∧ aE l d sc o cc ty Q (pc + 1) ls (.int (σ a i.toNatClampNeg) :: st) σ) := by
  rw [E_of hd rfl]
  show XR l d Q pc ls σ _ (ald sc 0 pc ls (.int i :: .ref a :: st) σ) = _
  unfold ald
  dsimp only
  rw [if_pos h]
  exact q_inb rfl
theorem q_sald {i : Int32} {q : Nat × (Nat → Int32)} (hd : decode cc pc = .ok (.iaload, 1)) : aE l d (some q) o cc ty Q pc ls (.int i :: .ref NP :: st) σ = (vp_in i q.1 ∧ aE l d (some q) o cc ty Q (pc + 1) ls (.int (q.2 i.toNatClampNeg) :: st) σ) := by
  rw [E_of hd rfl]
  show XR l d Q pc ls σ _ (ald (some q) 0 pc ls (.int i :: .ref NP :: st) σ) = _
  unfold ald
  dsimp only
  rw [if_neg (by decide +kernel), if_pos ⟨rfl, rfl⟩]
  exact q_inb rfl
theorem q_alen {q : Nat × (Nat → Int32)} (hd : decode cc pc = .ok (.arraylength, 1)) : aE l d (some q) o cc ty Q pc ls (.ref NP :: st) σ = aE l d (some q) o cc ty Q (pc + 1) ls (.int (Int32.ofNat q.1) :: st) σ := by
  rw [E_of hd rfl]
  show XR l d Q pc ls σ _ (aln1 (some q) pc ls (.ref NP :: st) σ) = _
  unfold aln1
  dsimp only
  rw [if_pos rfl]
  rfl
theorem q_bald {i : Int32} {a : Nat} (hd : decode cc pc = .ok (.baload, 1)) (h : akd a = 1) : aE l d sc o cc ty Q pc ls (.int i :: .ref a :: st) σ = (vp_in i (aln a) ∧ aE l d sc o cc ty Q (pc + 1) ls (.int (σ a i.toNatClampNeg) :: st) σ) := by
  rw [E_of hd rfl]
  show XR l d Q pc ls σ _ (ald none 1 pc ls (.int i :: .ref a :: st) σ) = _
  unfold ald
  dsimp only
  rw [if_pos h]
  exact q_inb rfl
theorem q_iast {i x : Int32} {a : Nat} (hd : decode cc pc = .ok (.iastore, 1)) (h : akd a = 0) : aE l d sc o cc ty Q pc ls (.int x :: .int i :: .ref a :: st) σ = (vp_in i (aln a) ∧ aE l d sc o cc ty Q (pc + 1) ls st (su σ a i.toNatClampNeg x)) := by
  rw [E_of hd rfl]
  show XR l d Q pc ls σ _ (ast 0 (fun x => x) pc ls (.int x :: .int i :: .ref a :: st) σ) = _
  unfold ast
  dsimp only
  rw [if_pos h]
  exact q_inb rfl
theorem q_bast {i x : Int32} {a : Nat} (hd : decode cc pc = .ok (.bastore, 1)) (h : akd a = 1) : aE l d sc o cc ty Q pc ls (.int x :: .int i :: .ref a :: st) σ = (vp_in i (aln a) ∧ aE l d sc o cc ty Q (pc + 1) ls st (su σ a i.toNatClampNeg (vp_nar .boolean x))) := by
  rw [E_of hd rfl]
  show XR l d Q pc ls σ _ (ast 1 (vp_nar .boolean) pc ls (.int x :: .int i :: .ref a :: st) σ) = _
  unfold ast
  dsimp only
  rw [if_pos h]
  exact q_inb rfl
theorem q_aald {i : Int32} {a : Nat} (hd : decode cc pc = .ok (.aaload, 1)) (h : akd a = 2 ∨ akd a = 3) : aE l d sc o cc ty Q pc ls (.int i :: .ref a :: st) σ = (vp_in i (aln a) ∧ aE l d sc o cc ty Q (pc + 1) ls (.ref (rel a i.toNatClampNeg) :: st) σ) := by
  rw [E_of hd rfl]
  show XR l d Q pc ls σ _ (aald pc ls (.int i :: .ref a :: st) σ) = _
  unfold aald
  dsimp only
  rw [if_pos h]
  exact q_inb rfl
theorem q_max {i : Nat} {x y : Int32} (hd : decode cc pc = .ok (.invokestatic i, 3)) (hm : ml o i = some 1000) (hr : rsz st ≤ 8) : aE l d sc o cc ty Q pc ls (.int y :: .int x :: st) σ = aE l d sc o cc ty Q (pc + 3) ls (.int (if x < y then y else x) :: st) σ := by
  rw [E_of hd rfl]
  show XR l d Q pc ls σ _ (ivS o i pc ls (.int y :: .int x :: st) σ) = _
  unfold ivS
  simp only [hm]
  unfold mm2
  dsimp only
  rw [if_pos hr]
  rfl
theorem q_min {i : Nat} {x y : Int32} (hd : decode cc pc = .ok (.invokestatic i, 3)) (hm : ml o i = some 1001) (hr : rsz st ≤ 8) : aE l d sc o cc ty Q pc ls (.int y :: .int x :: st) σ = aE l d sc o cc ty Q (pc + 3) ls (.int (if y < x then y else x) :: st) σ := by
  rw [E_of hd rfl]
  show XR l d Q pc ls σ _ (ivS o i pc ls (.int y :: .int x :: st) σ) = _
  unfold ivS
  simp only [hm]
  unfold mm2
  dsimp only
  rw [if_pos hr]
  rfl
theorem q_cpy {i : Nat} {n dp sp : Int32} {a b : Nat} (hd : decode cc pc = .ok (.invokestatic i, 3)) (hm : ml o i = some 1002) (hr : rsz st ≤ 8) (ha : akd a = 0) (hb : akd b = 0) (h1 : ¬ sp < 0) (h2 : ¬ dp < 0) (h3 : ¬ n < 0) (h4 : sp.toNatClampNeg + n.toNatClampNeg ≤ aln a) (h5 : dp.toNatClampNeg + n.toNatClampNeg ≤ aln b) : aE l d sc o cc ty Q pc ls (.int n :: .int dp :: .ref b :: .int sp :: .ref a :: st) σ = aE l d sc o cc ty Q (pc + 3) ls st (sy σ a b sp.toNatClampNeg dp.toNatClampNeg n.toNatClampNeg) := by
  rw [E_of hd rfl]
  show XR l d Q pc ls σ _ (ivS o i pc ls (.int n :: .int dp :: .ref b :: .int sp :: .ref a :: st) σ) = _
  unfold ivS
  simp only [hm]
  unfold cpy
  dsimp only
  rw [if_pos ⟨ha, hb, h1, h2, h3, h4, h5, hr⟩]
  rfl
theorem q_ivV {i j : Nat} {mm : aM} {as : List Value} {a : Nat} {s0 : List Value} (hd : decode cc pc = .ok (.invokevirtual i, 3)) (hm : ml o i = some j) (hmm : mtt[j]? = some mm) (h1 : mm.2.2.2.2.2.2 = false) (h2 : s0.drop mm.2.2.2.2.1 = .ref a :: st) (h3 : (s0.take mm.2.2.2.2.1).reverse = as) (h4 : mm.2.2.2.2.1 ≤ s0.length) (hc : cls a = mm.2.2.2.2.2.1) (hr : rsz st ≤ 8) : aE l d sc o cc ty Q pc ls s0 σ = aC l d j (.ref a :: as) σ (fun r σ' => aE l d sc o cc ty Q (pc + 3) ls (r.toList ++ st) σ') := by
  rw [E_of hd rfl, ← h3]
  show XR l d Q pc ls σ _ (ivV o i s0) = _
  unfold ivV
  simp only [hm]
  unfold clV
  simp only [hmm, h2]
  rw [if_pos ⟨h1, hc, hr, h4⟩]
  rfl
theorem q_ivS {i j : Nat} {mm : aM} {as : List Value} {s0 : List Value} (hd : decode cc pc = .ok (.invokestatic i, 3)) (hm : ml o i = some j) (hj : j < 1000) (hmm : mtt[j]? = some mm) (h1 : mm.2.2.2.2.2.2 = true) (h2 : s0.drop mm.2.2.2.2.1 = st) (h3 : (s0.take mm.2.2.2.2.1).reverse = as) (h4 : mm.2.2.2.2.1 ≤ s0.length) (hr : rsz st ≤ 8) : aE l d sc o cc ty Q pc ls s0 σ = aC l d j as σ (fun r σ' => aE l d sc o cc ty Q (pc + 3) ls (r.toList ++ st) σ') := by
  rw [E_of hd rfl, ← h3]
  show XR l d Q pc ls σ _ (ivS o i pc ls s0 σ) = _
  have : ivS o i pc ls s0 σ = clS j s0 := by
    unfold ivS
    split
    · next h => rw [hm] at h; cases h; omega
    · next h => rw [hm] at h; cases h; omega
    · next h => rw [hm] at h; cases h; omega
    · next h => rw [hm] at h; cases h; rfl
    · next h => rw [hm] at h; cases h
  rw [this]
  unfold clS
  simp only [hmm, h2]
  rw [if_pos ⟨h1, hr, h4⟩]
  rfl
theorem q_ivN {i j : Nat} {mm : aM} {as : List Value} {s0 : List Value} {q : Nat × Nat × Nat} (hd : decode cc pc = .ok (.invokestatic i, 3)) (hm : ml o i = none) (hn : nlt.find? (fun q => q.1 == o && q.2.1 == i) = some q) (hj : q.2.2 = j) (hmm : mtt[j]? = some mm) (h1 : mm.2.2.2.2.2.2 = true) (h2 : s0.drop mm.2.2.2.2.1 = st) (h3 : (s0.take mm.2.2.2.2.1).reverse = as) (h4 : mm.2.2.2.2.1 ≤ s0.length) (hr : rsz st ≤ 8) : aE l d sc o cc ty Q pc ls s0 σ = aC l d j as σ (fun r σ' => aE l d sc o cc ty Q (pc + 3) ls (r.toList ++ st) σ') := by
  rw [E_of hd rfl, ← h3]
  show XR l d Q pc ls σ _ (ivS o i pc ls s0 σ) = _
  have : ivS o i pc ls s0 σ = clS j s0 := by
    unfold ivS
    simp only [hm, hn, hj]
  rw [this]
  unfold clS
  simp only [hmm, h2]
  rw [if_pos ⟨h1, hr, h4⟩]
  rfl
theorem q_iret {v : Int32} (hd : decode cc pc = .ok (.ireturn, 1)) : aE l d sc o cc (some .int) Q pc ls [.int v] σ = Q (some (.int v)) σ := by
  rw [E_of hd rfl]
  show XR l d Q pc ls σ _ (rtI (some .int) [.int v]) = _
  unfold rtI
  dsimp only
  rw [if_pos (Or.inl rfl)]
  rfl
theorem q_zret {v : Int32} (hd : decode cc pc = .ok (.ireturn, 1)) : aE l d sc o cc (some .boolean) Q pc ls [.int v] σ = ((v = 0 ∨ v = 1) ∧ Q (some (.int v)) σ) := by
  rw [E_of hd rfl]
  show XR l d Q pc ls σ _ (rtI (some .boolean) [.int v]) = _
  unfold rtI
  dsimp only
  by_cases hv : v = 0 ∨ v = 1
  · rw [if_pos (Or.inr ⟨rfl, hv⟩)]
    exact propext ⟨fun h => ⟨hv, h⟩, fun h => h.2⟩
  · rw [if_neg (fun h => h.elim (fun q => by cases q) (fun q => hv q.2))]
    exact propext ⟨fun h => h.elim, fun h => absurd h.1 hv⟩
theorem q_vret (hd : decode cc pc = .ok (.return_, 1)) : aE l d sc o cc none Q pc ls [] σ = Q none σ := by
  rw [E_of hd rfl]
  show XR l d Q pc ls σ _ (rtV none []) = _
  unfold rtV
  dsimp only
  rw [if_pos rfl]
  rfl
theorem q_swt {dflt lo hi : Int} {offs : Array Int} {len t : Nat} {x : Int32} {off : Int} (hd : decode cc pc = .ok (.tableswitch dflt lo hi offs, len)) (hx : tsw dflt lo hi offs x = some off) (ht : (pc : Int) + off = (t : Int)) : aE l d sc o cc ty Q pc ls (.int x :: st) σ = aE l d sc o cc ty Q t ls st σ := by
  rw [E_of hd rfl]
  show XR l d Q pc ls σ _ (swt dflt lo hi offs pc ls (.int x :: st) σ) = _
  unfold swt
  simp only [hx]
  rw [if_pos (by omega), show tg pc off = t by unfold tg; omega]
  rfl
end RUL
