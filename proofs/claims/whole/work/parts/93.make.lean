/-! the making: cells in the order of their making, references by place -/
abbrev mkC : Type := (Nat × List Value) ⊕ (Nat × Nat × List (Option Nat))
abbrev mkG : Type := va_G × (Nat → ClassId)
def mkE (γ : mkG) (ad : Nat → Nat) (c : mkC) : va_E := match c with
  | .inl q => .inr (q.1, q.2.map (rv ad))
  | .inr q => .inl (γ.2 q.1, q.2.1, if q.1 < 2 then .inl (fun _ => 0) else .inr (.inr (.inr (.inr (fun i => ((q.2.2[i]?).join).map ad)))))
def mkW (γ : mkG) (ad : Nat → Nat) (hs : List mkC) : va_W := hs.mapIdx (fun p c => (ad p, mkE γ ad c))
theorem mkW_at (γ : mkG) (ad : Nat → Nat) (hs : List mkC) (p : Nat) : (mkW γ ad hs)[p]? = (hs[p]?).map (fun c => (ad p, mkE γ ad c)) := by simp [mkW, List.getElem?_mapIdx]
theorem mkW_len (γ : mkG) (ad : Nat → Nat) (hs : List mkC) : (mkW γ ad hs).length = hs.length := by simp [mkW]
theorem mkW_set (γ : mkG) (ad : Nat → Nat) (hs : List mkC) (p : Nat) (c : mkC) : (mkW γ ad hs).set p (ad p, mkE γ ad c) = mkW γ ad (hs.set p c) := by
  apply List.ext_getElem?
  intro i
  rw [mkW_at, List.getElem?_set, List.getElem?_set, mkW_len, mkW_at]
  by_cases e : p = i
  · subst e
    rw [if_pos rfl, if_pos rfl]
    by_cases h : p < hs.length
    · rw [if_pos h, if_pos h]; rfl
    · rw [if_neg h, if_neg h]; rfl
  · rw [if_neg e, if_neg e]
/-- the script's place is 132, all along -/
def ag (n : Nat) (ad ad' : Nat → Nat) : Prop := ∀ p, p < n ∨ p = 132 → ad' p = ad p
def vbn (n : Nat) (v : Value) : Bool := match v with
  | .ref a => Nat.blt a n || a == 132
  | _ => true
def obn (n : Nat) (o : Option Nat) : Bool := match o with
  | some a => Nat.blt a n
  | none => true
def cbn (n : Nat) (c : mkC) : Bool := match c with
  | .inl q => q.2.all (vbn n)
  | .inr q => q.2.2.all (obn n)
def lbn (n : Nat) (o : Option Value) : Bool := match o with
  | some v => vbn n v
  | none => true
def wfm (ls : aL) (st : List Value) (hs : List mkC) : Bool := hs.all (cbn hs.length) && (ls.all (lbn hs.length) && st.all (vbn hs.length))
theorem wfm_of {ls : aL} {st : List Value} {hs : List mkC} (h : wfm ls st hs = true) : hs.all (cbn hs.length) = true ∧ ls.all (lbn hs.length) = true ∧ st.all (vbn hs.length) = true := by
  unfold wfm at h
  rw [Bool.and_eq_true, Bool.and_eq_true] at h
  exact h
theorem blt_of {a n : Nat} (h : Nat.blt a n = true) : a < n := Nat.le_of_ble_eq_true h
theorem rv_ext {n : Nat} {ad ad' : Nat → Nat} (h : ag n ad ad') {v : Value} (hv : vbn n v = true) : rv ad' v = rv ad v := by
  cases v with
  | ref a =>
    refine congrArg Value.ref (h a ?_)
    have hv : (Nat.blt a n || a == 132) = true := hv
    rcases Bool.or_eq_true_iff.mp hv with c | c
    · exact Or.inl (blt_of c)
    · exact Or.inr (beq_iff_eq.mp c)
  | _ => rfl
theorem st_ext {n : Nat} {ad ad' : Nat → Nat} (h : ag n ad ad') {st : List Value} (hv : st.all (vbn n) = true) : st.map (rv ad') = st.map (rv ad) :=
  List.map_congr_left (fun v hm => rv_ext h (List.all_eq_true.mp hv v hm))
theorem mkE_ext {n : Nat} {ad ad' : Nat → Nat} (h : ag n ad ad') {γ : mkG} {c : mkC} (hc : cbn n c = true) : mkE γ ad' c = mkE γ ad c := by
  rcases c with q | q
  · show Sum.inr (q.1, q.2.map (rv ad')) = Sum.inr (q.1, q.2.map (rv ad))
    rw [st_ext h hc]
  · have e : (fun i : Nat => ((q.2.2[i]?).join).map ad') = (fun i : Nat => ((q.2.2[i]?).join).map ad) := by
      funext i
      cases hq : q.2.2[i]? with
      | none => rfl
      | some o =>
        cases o with
        | none => rfl
        | some a =>
          have := List.all_eq_true.mp hc _ (List.mem_of_getElem? hq)
          exact congrArg some (h a (Or.inl (blt_of this)))
    unfold mkE
    dsimp only
    rw [e]
theorem mkW_ext {n : Nat} {ad ad' : Nat → Nat} (h : ag n ad ad') {γ : mkG} {hs : List mkC} (hw : hs.all (cbn n) = true) (hn : hs.length ≤ n) : mkW γ ad' hs = mkW γ ad hs := by
  apply List.ext_getElem?
  intro i
  rw [mkW_at, mkW_at]
  cases hq : hs[i]? with
  | none => rfl
  | some c =>
    have hi : i < hs.length := (List.getElem?_eq_some_iff.mp hq).1
    show some (ad' i, mkE γ ad' c) = some (ad i, mkE γ ad c)
    rw [h i (Or.inl (by omega)), mkE_ext h (List.all_eq_true.mp hw _ (List.mem_of_getElem? hq))]
theorem lo_ext {n : Nat} {ad ad' : Nat → Nat} (h : ag n ad ad') {ls' : Array Slot} {nL : Nat} {ls : aL} (hl : lo_has ad ls' nL ls) (hv : ls.all (lbn n) = true) : lo_has ad' ls' nL ls := by
  refine ⟨hl.1, hl.2.1, hl.2.2.1, fun k v hk => ?_⟩
  have := List.all_eq_true.mp hv _ (List.mem_of_getElem? hk)
  rw [rv_ext h this]
  exact hl.2.2.2 k v hk
def uA (ad : Nat → Nat) (n q : Nat) : Nat → Nat := fun p => if p = n then q else ad p
theorem uA_lt {n : Nat} (hn : n < 132) (ad : Nat → Nat) (q : Nat) : ag n ad (uA ad n q) := fun p hp => if_neg (by omega)
theorem uA_at (ad : Nat → Nat) (n q : Nat) : uA ad n q n = q := if_pos rfl
theorem mkW_push {γ : mkG} {ad : Nat → Nat} {hs : List mkC} {q : Nat} {c : mkC} (hw : hs.all (cbn hs.length) = true) (hn : hs.length < 132) : mkW γ (uA ad hs.length q) (hs ++ [c]) = mkW γ ad hs ++ [(q, mkE γ (uA ad hs.length q) c)] := by
  rw [← mkW_ext (uA_lt hn ad q) hw (Nat.le_refl _)]
  apply List.ext_getElem?
  intro i
  rw [mkW_at]
  by_cases hi : i < hs.length
  · rw [List.getElem?_append_left hi, List.getElem?_append_left (by rw [mkW_len]; exact hi), mkW_at]
  · rw [List.getElem?_append_right (by omega), List.getElem?_append_right (by rw [mkW_len]; omega), mkW_len]
    by_cases e : i = hs.length
    · subst e
      rw [Nat.sub_self]
      show some (uA ad hs.length q hs.length, _) = some (q, _)
      rw [uA_at]
    · obtain ⟨j, hj⟩ : ∃ j, i - hs.length = j + 1 := ⟨i - hs.length - 1, by omega⟩
      rw [hj]
      rfl
theorem dfl_rv (ad : Nat → Nat) : ∀ ci, (dfl ci).map (rv ad) = dfl ci
  | 0 | 1 | 2 | 3 | 4 | 5 | 6 | 7 | 8 | 9 | 10 => rfl
  | _ + 11 => rfl
/-! one instruction of the making -/
def nwF (o x : Nat) : Option Nat := (nwt.find? (fun q => q.1 == o && q.2.1 == x)).map (fun q => q.2.2)
def nsF (o x : Nat) : Option Nat := (nstt.find? (fun q => q.1 == o && q.2.1 == x)).map (fun q => q.2.2)
def plF (o x : Nat) : Option Nat := (plt.find? (fun q => q.1 == o && q.2.1 == x)).map (fun q => q.2.2)
abbrev mkN : Type := Nat × aL × List Value × List mkC × Nat × Nat
abbrev mkO : Type := mkN ⊕ (Nat × Nat × List Value)
def mkX (pc : Nat) (ls : aL) (st : List Value) (hs : List mkC) : Option mkO := some (.inl (pc, ls, st, hs, 0, 0))
def mkLd (k : Nat) (pc : Nat) (ls : aL) (st : List Value) (hs : List mkC) : Option mkO := match (ls[k]?).join with
  | some v => mkX (pc + 1) ls (v :: st) hs
  | none => none
def mkSI (k : Nat) (pc : Nat) (ls : aL) (st : List Value) (hs : List mkC) : Option mkO := match st with
  | .int x :: r => if lok ls k = true ∧ k < ls.length then mkX (pc + 1) (ls.set k (some (.int x))) r hs else none
  | _ => none
def mkSA (k : Nat) (pc : Nat) (ls : aL) (st : List Value) (hs : List mkC) : Option mkO := match st with
  | .ref x :: r => if lok ls k = true ∧ k < ls.length then mkX (pc + 1) (ls.set k (some (.ref x))) r hs else none
  | _ => none
def mkInc (k : Nat) (n : Int) (pc : Nat) (ls : aL) (st : List Value) (hs : List mkC) : Option mkO := match (ls[k]?).join with
  | some (.int x) => if lok ls k = true ∧ k < ls.length then mkX (pc + 3) (ls.set k (some (.int (x + Int32.ofInt n)))) st hs else none
  | _ => none
def mkGe (off : Int) (pc : Nat) (ls : aL) (st : List Value) (hs : List mkC) : Option mkO := match st with
  | .int y :: .int x :: r => if 0 ≤ (pc : Int) + off then mkX (if y ≤ x then tg pc off else pc + 3) ls r hs else none
  | _ => none
def mkGo (off : Int) (pc : Nat) (ls : aL) (st : List Value) (hs : List mkC) : Option mkO := if 0 ≤ (pc : Int) + off then mkX (tg pc off) ls st hs else none
def mkDup (pc : Nat) (ls : aL) (st : List Value) (hs : List mkC) : Option mkO := match st with
  | v :: r => if v.category = 1 then mkX (pc + 1) ls (v :: v :: r) hs else none
  | _ => none
def mkNew (o x pc : Nat) (ls : aL) (st : List Value) (hs : List mkC) : Option mkO := match nwF o x with
  | some ci => if wfm ls st hs = true ∧ hs.length < 132 then some (.inl (pc + 3, ls, .ref hs.length :: st, hs ++ [.inl (ci, dfl ci)], 1, (dfl ci).length)) else none
  | none => none
def mkNA (k pc : Nat) (ls : aL) (st : List Value) (hs : List mkC) : Option mkO := match st with
  | .int n :: r => if (wfm ls st hs = true ∧ hs.length < 132) ∧ ¬ n < 0 ∧ n.toNatClampNeg ≤ 1000 then some (.inl (pc + 2, ls, .ref hs.length :: r, hs ++ [.inr (k, n.toNatClampNeg, [])], 1, n.toNatClampNeg)) else none
  | _ => none
def mkNQ (o x pc : Nat) (ls : aL) (st : List Value) (hs : List mkC) : Option mkO := match st with
  | .int n :: r => if (o, x) ∈ ant ∧ (wfm ls st hs = true ∧ hs.length < 132) ∧ ¬ n < 0 ∧ n.toNatClampNeg ≤ 1000 then some (.inl (pc + 3, ls, .ref hs.length :: r, hs ++ [.inr (2, n.toNatClampNeg, List.replicate n.toNatClampNeg none)], 1, n.toNatClampNeg)) else none
  | _ => none
def mkMM (o x pc : Nat) (ls : aL) (st : List Value) (hs : List mkC) : Option mkO := match st with
  | .int k :: .int n :: r => if (o = 8 ∧ x = 15) ∧ (wfm ls st hs = true ∧ hs.length + 1 + n.toNatClampNeg ≤ 132) ∧ (¬ n < 0 ∧ n.toNatClampNeg ≤ 1000) ∧ (¬ k < 0 ∧ k.toNatClampNeg ≤ 1000) then some (.inl (pc + 4, ls, .ref hs.length :: r, hs ++ (.inr (3, n.toNatClampNeg, (List.range n.toNatClampNeg).map (fun j => some (hs.length + 1 + j))) :: List.replicate n.toNatClampNeg (.inr (0, k.toNatClampNeg, []))), 1 + n.toNatClampNeg, n.toNatClampNeg + n.toNatClampNeg * k.toNatClampNeg)) else none
  | _ => none
/-- 1: a final field that holds a reference; 2: a number that may change -/
def fkd (ci k : Nat) (v : Value) : Bool := match classes[ci]?, v with
  | some q, .ref _ => (q.2.1 k).2.2.2
  | some q, .int _ => !(q.2.1 k).2.2.2
  | _, _ => false
def mkPt (o x pc : Nat) (ls : aL) (st : List Value) (hs : List mkC) : Option mkO := match st with
  | v :: .ref a :: r => match fl o x, hs[a]? with
    | some q, some (.inl c) => if c.1 = q.1 ∧ q.1 = o ∧ q.2 < c.2.length ∧ fkd q.1 q.2 v = true then mkX (pc + 3) ls r (hs.set a (.inl (c.1, c.2.set q.2 v))) else none
    | _, _ => none
  | _ => none
def mkGt (o x pc : Nat) (ls : aL) (st : List Value) (hs : List mkC) : Option mkO := match st with
  | .ref a :: r => match fl o x, hs[a]? with
    | some q, some (.inl c) => if c.1 = q.1 then (match c.2[q.2]? with
        | some v => mkX (pc + 3) ls (v :: r) hs
        | none => none) else none
    | _, _ => none
  | _ => none
def mkAS (pc : Nat) (ls : aL) (st : List Value) (hs : List mkC) : Option mkO := match st with
  | .ref v :: .int i :: .ref a :: r => match hs[a]?, hs[v]? with
    | some (.inr q), some (.inl c) => if q.1 = 2 ∧ c.1 = 7 ∧ ¬ i < 0 ∧ i.toNatClampNeg < q.2.1 ∧ q.2.2.length = q.2.1 then mkX (pc + 1) ls r (hs.set a (.inr (q.1, q.2.1, q.2.2.set i.toNatClampNeg (some v)))) else none
    | _, _ => none
  | _ => none
def mkIS (o x pc : Nat) (ls : aL) (st : List Value) (hs : List mkC) : Option mkO := match st with
  | .ref a :: r => if rsz r ≤ 8 then (if (o, x) ∈ obt then mkX (pc + 3) ls r hs else match nsF o x with
      | some j => some (.inr (j, a, r))
      | none => match plF o x with
        | some j => some (.inr (j, a, r))
        | none => none) else none
  | _ => none
def mkS (o : Nat) (i : Instr) (pc : Nat) (ls : aL) (st : List Value) (hs : List mkC) : Option mkO := match i with
  | .iconst n => mkX (pc + 1) ls (.int (Int32.ofInt n) :: st) hs
  | .bipush n => mkX (pc + 2) ls (.int (Int8.ofInt n).toInt32 :: st) hs
  | .sipush n => mkX (pc + 3) ls (.int (Int16.ofInt n).toInt32 :: st) hs
  | .aload_n k => (match (ls[(k : Nat)]?).join with
    | some (.ref x) => mkX (pc + 1) ls (.ref x :: st) hs
    | _ => none)
  | .iload_n k => (match (ls[(k : Nat)]?).join with
    | some (.int x) => mkX (pc + 1) ls (.int x :: st) hs
    | _ => none)
  | .istore_n k => mkSI k pc ls st hs
  | .astore_n k => mkSA k pc ls st hs
  | .iinc k n => mkInc k n pc ls st hs
  | .if_icmp .ge off => mkGe off pc ls st hs
  | .goto off => mkGo off pc ls st hs
  | .dup => mkDup pc ls st hs
  | .new x => mkNew o x pc ls st hs
  | .newarray .int => mkNA 0 pc ls st hs
  | .newarray .boolean => mkNA 1 pc ls st hs
  | .anewarray x => mkNQ o x pc ls st hs
  | .multianewarray x 2 => mkMM o x pc ls st hs
  | .putfield x => mkPt o x pc ls st hs
  | .getfield x => mkGt o x pc ls st hs
  | .aastore => mkAS pc ls st hs
  | .invokespecial x => mkIS o x pc ls st hs
  | _ => none
def lenM (i : Instr) : Nat := match i with
  | .bipush _ => 2
  | .newarray _ => 2
  | .sipush _ => 3
  | .iinc _ _ => 3
  | .if_icmp _ _ => 3
  | .goto _ => 3
  | .new _ => 3
  | .anewarray _ => 3
  | .putfield _ => 3
  | .getfield _ => 3
  | .invokespecial _ => 3
  | .multianewarray _ _ => 4
  | _ => 1
def isRet (i : Instr) : Bool := match i with
  | .return_ => true
  | _ => false
def mkR (call : Nat → Nat → List mkC → Option (List mkC × Nat × Nat)) (o : Nat) (cc : ByteArray) (stop : Nat) : Nat → Nat → aL → List Value → List mkC → Nat → Nat → Option mkN
  | 0, _, _, _, _, _, _ => none
  | f + 1, pc, ls, st, hs, cl, sl => if pc = stop then some (pc, ls, st, hs, cl, sl) else match decode cc pc with
    | .ok q => if isRet q.1 = true then some (pc, ls, st, hs, cl, sl) else if q.2 = lenM q.1 then (match mkS o q.1 pc ls st hs with
        | some (.inl r) => mkR call o cc stop f r.1 r.2.1 r.2.2.1 r.2.2.2.1 (cl + r.2.2.2.2.1) (sl + r.2.2.2.2.2)
        | some (.inr r) => (match call r.1 r.2.1 hs with
          | some t => if wfm ls st hs = true ∧ hs.length ≤ t.1.length then mkR call o cc stop f (pc + 3) ls r.2.2 t.1 (cl + t.2.1) (sl + t.2.2) else none
          | none => none)
        | none => none) else none
    | _ => none
def isRetAt (cc : ByteArray) (pc : Nat) : Bool := match decode cc pc with
  | .ok q => isRet q.1 && q.2 == 1
  | _ => false
def mkF : Nat → Nat → Nat → List mkC → Option (List mkC × Nat × Nat)
  | 0, _, _, _ => none
  | d + 1, j, k, hs => match kct[j]? with
    | some q => (match mkR (mkF d) j q.2.1 100000 400 0 (some (.ref k) :: List.replicate (q.2.2 - 1) none) [] hs 0 0 with
      | some r => if r.2.2.1.isEmpty = true ∧ isRetAt q.2.1 r.1 = true ∧ k < hs.length then some (r.2.2.2.1, r.2.2.2.2.1, r.2.2.2.2.2) else none
      | none => none)
    | none => none
