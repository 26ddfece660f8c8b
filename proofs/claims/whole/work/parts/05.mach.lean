/-! THE ABSTRACT MACHINE: the cells of the class and of the reference have a fixed shape once both are made; what changes is ints. A state is aW: place, index ↦ int. -/
abbrev aW : Type := Nat → Nat → Int32
abbrev aL : Type := List (Option Value)
abbrev aR : Type := (Nat × aL × List Value × aW) ⊕ (Option Value ⊕ (Nat × List Value × List Value))
abbrev aG : Type := va_G × (Nat → Nat) × (Nat → ClassId)
def cls (p : Nat) : Nat := match shl[p]? with
  | some (.inl q) => q.1
  | _ => 99
def slt (p k : Nat) : Option (Option Nat) := match shl[p]? with
  | some (.inl q) => q.2[k]?
  | _ => none
def rf (p k : Nat) : Nat := match slt p k with
  | some (some t) => t
  | _ => 0
def akd (p : Nat) : Nat := match shl[p]? with
  | some (.inr q) => q.1
  | _ => 99
def aln (p : Nat) : Nat := match shl[p]? with
  | some (.inr q) => q.2.1
  | _ => 0
def rel (p i : Nat) : Nat := match shl[p]? with
  | some (.inr q) => q.2.2.getD i 0
  | _ => 0
def su (σ : aW) (a k : Nat) (v : Int32) : aW := fun a' => if a' = a then upd (σ a) k v else σ a'
def sy (σ : aW) (a b sp dp n : Nat) : aW := fun a' => if a' = b then va_cpy (σ a) (σ b) sp dp n else σ a'
def fl (o i : Nat) : Option (Nat × Nat) := (flt.find? (fun q => q.1 == o && q.2.1 == i)).map (fun q => q.2.2)
def kl (o i : Nat) : Option Int32 := (klt.find? (fun q => q.1 == o && q.2.1 == i)).map (fun q => q.2.2)
def kL (o i : Nat) : Option Int64 := (kLt.find? (fun q => q.1 == o && q.2.1 == i)).map (fun q => q.2.2)
def ml (o i : Nat) : Option Nat := (mlt.find? (fun q => q.1 == o && q.2.1 == i)).map (fun q => q.2.2)
def nl (v : Option Value) : Bool := match v with
  | some (.long _) => false
  | some (.double _) => false
  | _ => true
def lok (ls : aL) (k : Nat) : Bool := match k with
  | 0 => true
  | k + 1 => nl (ls[k]?).join
def rsz : List Value → Nat
  | [] => 0
  | v :: t => v.category + rsz t
def nx (pc : Nat) (ls : aL) (st : List Value) (σ : aW) : Option aR := some (.inl (pc, ls, st, σ))
def tg (pc : Nat) (off : Int) : Nat := ((pc : Int) + off).toNat
def bin (f : Int32 → Int32 → Int32) (pc : Nat) (ls : aL) (st : List Value) (σ : aW) : Option aR := match st with
  | .int y :: .int x :: r => nx (pc + 1) ls (.int (f x y) :: r) σ
  | _ => none
def binL (f : Int64 → Int64 → Int64) (pc : Nat) (ls : aL) (st : List Value) (σ : aW) : Option aR := match st with
  | .long y :: .long x :: r => nx (pc + 1) ls (.long (f x y) :: r) σ
  | _ => none
def ldI (k : Nat) (pc : Nat) (ls : aL) (st : List Value) (σ : aW) : Option aR := match (ls[k]?).join with
  | some (.int x) => nx pc ls (.int x :: st) σ
  | _ => none
def ldL (k : Nat) (pc : Nat) (ls : aL) (st : List Value) (σ : aW) : Option aR := match (ls[k]?).join with
  | some (.long x) => nx pc ls (.long x :: st) σ
  | _ => none
def ldA (k : Nat) (pc : Nat) (ls : aL) (st : List Value) (σ : aW) : Option aR := match (ls[k]?).join with
  | some (.ref x) => nx pc ls (.ref x :: st) σ
  | _ => none
def stI (k : Nat) (pc : Nat) (ls : aL) (st : List Value) (σ : aW) : Option aR := match st with
  | .int x :: r => if lok ls k = true ∧ k < ls.length then nx pc (ls.set k (some (.int x))) r σ else none
  | _ => none
def stA (k : Nat) (pc : Nat) (ls : aL) (st : List Value) (σ : aW) : Option aR := match st with
  | .ref x :: r => if lok ls k = true ∧ k < ls.length then nx pc (ls.set k (some (.ref x))) r σ else none
  | _ => none
def stL (k : Nat) (pc : Nat) (ls : aL) (st : List Value) (σ : aW) : Option aR := match st with
  | .long x :: r => if lok ls k = true ∧ k + 1 < ls.length then nx pc ((ls.set k (some (.long x))).set (k + 1) none) r σ else none
  | _ => none
def ccI (c : ClassFile.Cond) (x y : Int32) : Bool := match c with
  | .eq => decide (x = y)
  | .ne => !decide (x = y)
  | .lt => decide (x < y)
  | .ge => decide (y ≤ x)
  | .gt => decide (y < x)
  | .le => decide (x ≤ y)
def brI (b : Bool) (off : Int) (pc : Nat) (ls : aL) (r : List Value) (σ : aW) : Option aR := if 0 ≤ (pc : Int) + off then nx (if b then tg pc off else pc + 3) ls r σ else none
def tsw (dflt lo hi : Int) (offs : Array Int) (x : Int32) : Option Int := if x.toInt < lo ∨ hi < x.toInt then some dflt else offs[(x.toInt - lo).toNat]?
def gtF (o i pc : Nat) (ls : aL) (st : List Value) (σ : aW) : Option aR := match st with
  | .ref a :: r => match fl o i with
    | some q => if cls a = q.1 then match slt a q.2 with
        | some none => nx (pc + 3) ls (.int (σ a q.2) :: r) σ
        | some (some t) => nx (pc + 3) ls (.ref t :: r) σ
        | none => none
      else none
    | none => none
  | _ => none
def ptF (o i pc : Nat) (ls : aL) (st : List Value) (σ : aW) : Option aR := match st with
  | .int v :: .ref a :: r => match fl o i with
    | some q => if cls a = q.1 ∧ slt a q.2 = some none then nx (pc + 3) ls r (su σ a q.2 v) else none
    | none => none
  | _ => none
def ald (sc : Option (Nat × (Nat → Int32))) (kd : Nat) (pc : Nat) (ls : aL) (st : List Value) (σ : aW) : Option aR := match st with
  | .int i :: .ref a :: r => if akd a = kd then (if i < 0 ∨ aln a ≤ i.toNatClampNeg then none else nx (pc + 1) ls (.int (σ a i.toNatClampNeg) :: r) σ)
      else if a = NP ∧ kd = 0 then match sc with
        | some q => if i < 0 ∨ q.1 ≤ i.toNatClampNeg then none else nx (pc + 1) ls (.int (q.2 i.toNatClampNeg) :: r) σ
        | none => none
      else none
  | _ => none
def ast (kd : Nat) (h : Int32 → Int32) (pc : Nat) (ls : aL) (st : List Value) (σ : aW) : Option aR := match st with
  | .int x :: .int i :: .ref a :: r => if akd a = kd then (if i < 0 ∨ aln a ≤ i.toNatClampNeg then none else nx (pc + 1) ls r (su σ a i.toNatClampNeg (h x))) else none
  | _ => none
def aald (pc : Nat) (ls : aL) (st : List Value) (σ : aW) : Option aR := match st with
  | .int i :: .ref a :: r => if akd a = 2 ∨ akd a = 3 then (if i < 0 ∨ aln a ≤ i.toNatClampNeg then none else nx (pc + 1) ls (.ref (rel a i.toNatClampNeg) :: r) σ) else none
  | _ => none
def cpy (pc : Nat) (ls : aL) (st : List Value) (σ : aW) : Option aR := match st with
  | .int n :: .int dp :: .ref b :: .int sp :: .ref a :: r => if akd a = 0 ∧ akd b = 0 ∧ ¬ sp < 0 ∧ ¬ dp < 0 ∧ ¬ n < 0 ∧ sp.toNatClampNeg + n.toNatClampNeg ≤ aln a ∧ dp.toNatClampNeg + n.toNatClampNeg ≤ aln b ∧ rsz r ≤ 8 then nx (pc + 3) ls r (sy σ a b sp.toNatClampNeg dp.toNatClampNeg n.toNatClampNeg) else none
  | _ => none
def mm2 (f : Int32 → Int32 → Int32) (pc : Nat) (ls : aL) (st : List Value) (σ : aW) : Option aR := match st with
  | .int y :: .int x :: r => if rsz r ≤ 8 then nx (pc + 3) ls (.int (f x y) :: r) σ else none
  | _ => none
def clV (j : Nat) (st : List Value) : Option aR := match mtt[j]? with
  | some m => match st.drop m.2.2.2.2.1 with
    | .ref a :: r => if m.2.2.2.2.2.2 = false ∧ cls a = m.2.2.2.2.2.1 ∧ rsz r ≤ 8 ∧ m.2.2.2.2.1 ≤ st.length then some (.inr (.inr (j, .ref a :: (st.take m.2.2.2.2.1).reverse, r))) else none
    | _ => none
  | none => none
def clS (j : Nat) (st : List Value) : Option aR := match mtt[j]? with
  | some m => if m.2.2.2.2.2.2 = true ∧ rsz (st.drop m.2.2.2.2.1) ≤ 8 ∧ m.2.2.2.2.1 ≤ st.length then some (.inr (.inr (j, (st.take m.2.2.2.2.1).reverse, st.drop m.2.2.2.2.1))) else none
  | none => none
def ivS (o i pc : Nat) (ls : aL) (st : List Value) (σ : aW) : Option aR := match ml o i with
  | some 1000 => mm2 (fun x y => if x < y then y else x) pc ls st σ
  | some 1001 => mm2 (fun x y => if y < x then y else x) pc ls st σ
  | some 1002 => cpy pc ls st σ
  | some j => clS j st
  | none => match nlt.find? (fun q => q.1 == o && q.2.1 == i) with
    | some q => clS q.2.2 st
    | none => none
def rtI (ty : Option FieldType) (st : List Value) : Option aR := match st with
  | [.int v] => if ty = some .int ∨ (ty = some .boolean ∧ (v = 0 ∨ v = 1)) then some (.inr (.inl (some (.int v)))) else none
  | _ => none
def rtV (ty : Option FieldType) (st : List Value) : Option aR := match st with
  | [] => if ty = none then some (.inr (.inl none)) else none
  | _ => none
def cnv (pc : Nat) (ls : aL) (st : List Value) (σ : aW) : Option aR := match st with
  | .int x :: r => nx (pc + 1) ls (.long x.toInt64 :: r) σ
  | _ => none
def cnvL (pc : Nat) (ls : aL) (st : List Value) (σ : aW) : Option aR := match st with
  | .long x :: r => nx (pc + 1) ls (.int x.toInt32 :: r) σ
  | _ => none
def lcm (pc : Nat) (ls : aL) (st : List Value) (σ : aW) : Option aR := match st with
  | .long y :: .long x :: r => nx (pc + 1) ls (.int (lg_cmp x y) :: r) σ
  | _ => none
def divI (f : Int32 → Int32 → Int32) (pc : Nat) (ls : aL) (st : List Value) (σ : aW) : Option aR := match st with
  | .int y :: .int x :: r => if y = 0 then none else nx (pc + 1) ls (.int (f x y) :: r) σ
  | _ => none
def divL (f : Int64 → Int64 → Int64) (pc : Nat) (ls : aL) (st : List Value) (σ : aW) : Option aR := match st with
  | .long y :: .long x :: r => if y = 0 then none else nx (pc + 1) ls (.long (f x y) :: r) σ
  | _ => none
def du1 (pc : Nat) (ls : aL) (st : List Value) (σ : aW) : Option aR := match st with
  | v :: r => if v.category = 1 then nx (pc + 1) ls (v :: v :: r) σ else none
  | _ => none
def pp1 (pc : Nat) (ls : aL) (st : List Value) (σ : aW) : Option aR := match st with
  | v :: r => if v.category = 1 then nx (pc + 1) ls r σ else none
  | _ => none
def du2 (pc : Nat) (ls : aL) (st : List Value) (σ : aW) : Option aR := match st with
  | v :: w :: r => if v.category = 1 ∧ w.category = 1 then nx (pc + 1) ls (v :: w :: v :: w :: r) σ else none
  | _ => none
def inc (k : Nat) (n : Int) (pc : Nat) (ls : aL) (st : List Value) (σ : aW) : Option aR := match (ls[k]?).join with
  | some (.int x) => if lok ls k = true ∧ k < ls.length then nx (pc + 3) (ls.set k (some (.int (x + Int32.ofInt n)))) st σ else none
  | _ => none
def if1 (c : ClassFile.Cond) (off : Int) (pc : Nat) (ls : aL) (st : List Value) (σ : aW) : Option aR := match st with
  | .int x :: r => brI (ccI c x 0) off pc ls r σ
  | _ => none
def if2 (c : ClassFile.Cond) (off : Int) (pc : Nat) (ls : aL) (st : List Value) (σ : aW) : Option aR := match st with
  | .int y :: .int x :: r => brI (ccI c x y) off pc ls r σ
  | _ => none
def ifn (b : Bool) (off : Int) (pc : Nat) (ls : aL) (st : List Value) (σ : aW) : Option aR := match st with
  | .ref _ :: r => brI b off pc ls r σ
  | _ => none
def swt (dflt lo hi : Int) (offs : Array Int) (pc : Nat) (ls : aL) (st : List Value) (σ : aW) : Option aR := match st with
  | .int x :: r => match tsw dflt lo hi offs x with
    | some off => if 0 ≤ (pc : Int) + off then nx (tg pc off) ls r σ else none
    | none => none
  | _ => none
def aln1 (sc : Option (Nat × (Nat → Int32))) (pc : Nat) (ls : aL) (st : List Value) (σ : aW) : Option aR := match st with
  | .ref a :: r => if a = NP then match sc with
      | some q => nx (pc + 1) ls (.int (Int32.ofNat q.1) :: r) σ
      | none => none
    else none
  | _ => none
def ivV (o i : Nat) (st : List Value) : Option aR := match ml o i with
  | some j => clV j st
  | none => none
def stepA (sc : Option (Nat × (Nat → Int32))) (o : Nat) (ty : Option FieldType) (i : Instr) (pc : Nat) (ls : aL) (st : List Value) (σ : aW) : Option aR := match i with
  | .iconst n => nx (pc + 1) ls (.int (Int32.ofInt n) :: st) σ
  | .bipush n => nx (pc + 2) ls (.int (Int8.ofInt n).toInt32 :: st) σ
  | .sipush n => nx (pc + 3) ls (.int (Int16.ofInt n).toInt32 :: st) σ
  | .lconst n => nx (pc + 1) ls (.long (Int64.ofNat (n : Nat)) :: st) σ
  | .ldc x => (kl o x).bind fun v => nx (pc + 2) ls (.int v :: st) σ
  | .ldc_w x => (kl o x).bind fun v => nx (pc + 3) ls (.int v :: st) σ
  | .ldc2_w x => (kL o x).bind fun v => nx (pc + 3) ls (.long v :: st) σ
  | .iload_n k => ldI k (pc + 1) ls st σ
  | .iload k => ldI k (pc + 2) ls st σ
  | .lload_n k => ldL k (pc + 1) ls st σ
  | .lload k => ldL k (pc + 2) ls st σ
  | .aload_n k => ldA k (pc + 1) ls st σ
  | .aload k => ldA k (pc + 2) ls st σ
  | .istore_n k => stI k (pc + 1) ls st σ
  | .istore k => stI k (pc + 2) ls st σ
  | .lstore_n k => stL k (pc + 1) ls st σ
  | .lstore k => stL k (pc + 2) ls st σ
  | .astore_n k => stA k (pc + 1) ls st σ
  | .astore k => stA k (pc + 2) ls st σ
  | .iinc k n => inc k n pc ls st σ
  | .iadd => bin (fun x y => x + y) pc ls st σ
  | .isub => bin (fun x y => x - y) pc ls st σ
  | .imul => bin (fun x y => x * y) pc ls st σ
  | .iand => bin (fun x y => x &&& y) pc ls st σ
  | .ior => bin (fun x y => x ||| y) pc ls st σ
  | .ixor => bin (fun x y => x ^^^ y) pc ls st σ
  | .ishl => bin (fun x y => x <<< (y &&& 31)) pc ls st σ
  | .ishr => bin (fun x y => x >>> (y &&& 31)) pc ls st σ
  | .iushr => bin (fun x y => (x.toUInt32 >>> (y.toUInt32 &&& Int32.toUInt32 31)).toInt32) pc ls st σ
  | .idiv => divI (fun x y => x / y) pc ls st σ
  | .irem => divI (fun x y => x - x / y * y) pc ls st σ
  | .ladd => binL (fun x y => x + y) pc ls st σ
  | .lmul => binL (fun x y => x * y) pc ls st σ
  | .land => binL (fun x y => x &&& y) pc ls st σ
  | .ldiv => divL (fun x y => x / y) pc ls st σ
  | .lrem => divL (fun x y => x - x / y * y) pc ls st σ
  | .i2l => cnv pc ls st σ
  | .l2i => cnvL pc ls st σ
  | .lcmp => lcm pc ls st σ
  | .dup => du1 pc ls st σ
  | .pop => pp1 pc ls st σ
  | .dup2 => du2 pc ls st σ
  | .ifCond c off => if1 c off pc ls st σ
  | .if_icmp c off => if2 c off pc ls st σ
  | .ifnull off => ifn false off pc ls st σ
  | .ifnonnull off => ifn true off pc ls st σ
  | .goto off => brI true off pc ls st σ
  | .tableswitch dflt lo hi offs => swt dflt lo hi offs pc ls st σ
  | .getfield i => gtF o i pc ls st σ
  | .putfield i => ptF o i pc ls st σ
  | .iaload => ald sc 0 pc ls st σ
  | .baload => ald none 1 pc ls st σ
  | .iastore => ast 0 (fun x => x) pc ls st σ
  | .bastore => ast 1 (vp_nar .boolean) pc ls st σ
  | .aaload => aald pc ls st σ
  | .arraylength => aln1 sc pc ls st σ
  | .invokevirtual i => ivV o i st
  | .invokestatic i => ivS o i pc ls st σ
  | .ireturn => rtI ty st
  | .return_ => rtV ty st
  | _ => none
def lenI (i : Instr) (len : Nat) : Nat := match i with
  | .bipush _ => 2
  | .ldc _ => 2
  | .iload _ => 2
  | .istore _ => 2
  | .lload _ => 2
  | .lstore _ => 2
  | .aload _ => 2
  | .astore _ => 2
  | .sipush _ => 3
  | .ldc_w _ => 3
  | .ldc2_w _ => 3
  | .iinc _ _ => 3
  | .ifCond _ _ => 3
  | .if_icmp _ _ => 3
  | .ifnull _ => 3
  | .ifnonnull _ => 3
  | .goto _ => 3
  | .getfield _ => 3
  | .putfield _ => 3
  | .invokevirtual _ => 3
  | .invokestatic _ => 3
  | .tableswitch _ _ _ _ => len
  | _ => 1
def rv (ad : Nat → Nat) (v : Value) : Value := match v with
  | .ref a => .ref (ad a)
  | w => w
def rfs (ad : Nat → Nat) (f : Nat → Int32) (sl : List (Option Nat)) : List Value := sl.mapIdx (fun k o => match o with
  | none => .int (f k)
  | some t => .ref (ad t))
def rc (g : aG) (p : Nat) (f : Nat → Int32) : va_E := match shl[p]? with
  | some (.inl q) => .inr (q.1, rfs g.2.1 f q.2)
  | some (.inr q) => .inl (g.2.2 q.1, q.2.1, if q.1 < 2 then .inl f else .inr (.inr (.inr (.inr (fun i => (q.2.2[i]?).map g.2.1)))))
  | none => .inr (0, [])
def rws (g : aG) (σ : aW) : va_W := (List.range NP).map (fun p => (g.2.1 p, rc g p (σ p)))
def atys (g : aG) : List (ClassId × FieldType) := [(g.2.2 0, .int), (g.2.2 1, .boolean), (g.2.2 2, .object RX7), (g.2.2 3, .array .int)]
def nw0 : Cond := .methodLinkNest (cn (nlt.getD 0 (0, 0, 0)).1) (nlt.getD 0 (0, 0, 0)).2.1 yX9_afterCoffee RX9
def RD (d : Nat) : Room := { frames := d, cells := 0, slots := 0, locals := 100 * d }
def aPre (g : aG) (sz : Nat) (as : List Value) (σ : aW) : Array Value → State → Prop := va_Pc (as.map (rv g.2.1)) (fun U => U.heap.size = sz ∧ va_P g.1 classes (rws g σ) U.heap ∧ va_K g.1 classes (atys g) U ∧ va_Nw nw0 U ∧ va_D (fun _ => True) (rws g σ))
def aPost (g : aG) (sz : Nat) (σ : aW) (r : Option Value) (σ' : aW) : Array Value → State → Outcome → State → Prop := fun _ st oc t => (oc = .returned (r.map (rv g.2.1)) ∧ va_P g.1 classes (rws g σ') t.heap) ∧ va_F (va_A (rws g σ) sz) st t
def Sem (l : Launch) (d j : Nat) (as : List Value) (σ : aW) (r : Option Value) (σ' : aW) : Prop :=
  ∃ m : aM, mtt[j]? = some m ∧ ∀ (g : aG) (sz : Nat), Met l m.1 (Cond.code m.1 m.2.1 m.2.2.1 m.2.2.2.1 :: gw) (RD d) (aPre g sz as σ) (aPost g sz σ r σ') 0 0 (va_A (rws g σ) sz)
def aC (l : Launch) (d j : Nat) (as : List Value) (σ : aW) (post : Option Value → aW → Prop) : Prop := ∃ r σ', Sem l d j as σ r σ' ∧ post r σ'
theorem aC.of {l : Launch} {d j : Nat} {as : List Value} {σ σ' : aW} {r : Option Value} {post : Option Value → aW → Prop} (h : Sem l d j as σ r σ') (k : post r σ') : aC l d j as σ post := ⟨r, σ', h, k⟩
theorem aC.mono {l : Launch} {d j : Nat} {as : List Value} {σ : aW} {P P' : Option Value → aW → Prop} (h : aC l d j as σ P) (k : ∀ r σ', P r σ' → P' r σ') : aC l d j as σ P' := by
  obtain ⟨r, σ', h1, h2⟩ := h
  exact ⟨r, σ', h1, k r σ' h2⟩
def XR (l : Launch) (d : Nat) (Q : Option Value → aW → Prop) (pc : Nat) (ls : aL) (σ : aW) (K : Nat → aL → List Value → aW → Prop) (r : Option aR) : Prop := match r with
  | none => False
  | some (.inl q) => K q.1 q.2.1 q.2.2.1 q.2.2.2
  | some (.inr (.inl v)) => Q v σ
  | some (.inr (.inr q)) => aC l d q.1 q.2.1 σ (fun r σ' => K (pc + 3) ls (r.toList ++ q.2.2) σ')
def aX (l : Launch) (d : Nat) (sc : Option (Nat × (Nat → Int32))) (o : Nat) (cc : ByteArray) (ty : Option FieldType) (Q : Option Value → aW → Prop) : Nat → Nat → aL → List Value → aW → Prop
  | 0, _, _, _, _ => False
  | n + 1, pc, ls, st, σ => ∃ i len, decode cc pc = .ok (i, len) ∧ len = lenI i len ∧ XR l d Q pc ls σ (aX l d sc o cc ty Q n) (stepA sc o ty i pc ls st σ)
def aE (l : Launch) (d : Nat) (sc : Option (Nat × (Nat → Int32))) (o : Nat) (cc : ByteArray) (ty : Option FieldType) (Q : Option Value → aW → Prop) (pc : Nat) (ls : aL) (st : List Value) (σ : aW) : Prop := ∃ n, aX l d sc o cc ty Q n pc ls st σ
theorem E_of {l : Launch} {d : Nat} {sc : Option (Nat × (Nat → Int32))} {o : Nat} {cc : ByteArray} {ty : Option FieldType} {Q : Option Value → aW → Prop} {pc : Nat} {i : Instr} {len : Nat} (hd : decode cc pc = .ok (i, len)) (hl : len = lenI i len) (ls : aL) (st : List Value) (σ : aW) :
    aE l d sc o cc ty Q pc ls st σ = XR l d Q pc ls σ (aE l d sc o cc ty Q) (stepA sc o ty i pc ls st σ) := by
  apply propext
  constructor
  · rintro ⟨n, h⟩
    cases n with
    | zero => exact h.elim
    | succ n =>
      obtain ⟨i', len', h1, h2, h3⟩ := h
      rw [hd] at h1
      cases h1
      revert h3
      generalize stepA sc o ty i pc ls st σ = r
      rcases r with _ | ⟨q⟩ | ⟨v⟩ | ⟨q⟩
      · exact fun h => h
      · exact fun h => ⟨n, h⟩
      · exact fun h => h
      · rintro ⟨r, σ', a, b⟩
        exact ⟨r, σ', a, n, b⟩
  · intro h3
    have key : ∃ n, XR l d Q pc ls σ (aX l d sc o cc ty Q n) (stepA sc o ty i pc ls st σ) := by
      revert h3
      generalize stepA sc o ty i pc ls st σ = r
      rcases r with _ | ⟨q⟩ | ⟨v⟩ | ⟨q⟩
      · exact fun h => h.elim
      · rintro ⟨n, h⟩
        exact ⟨n, h⟩
      · exact fun h => ⟨0, h⟩
      · rintro ⟨r, σ', a, n, b⟩
        exact ⟨n, r, σ', a, b⟩
    obtain ⟨n, h⟩ := key
    exact ⟨n + 1, i, len, hd, hl, h⟩
/-- an answer can be named -/
theorem X_ex {l : Launch} {d : Nat} {sc : Option (Nat × (Nat → Int32))} {o : Nat} {cc : ByteArray} {ty : Option FieldType} {Q : Option Value → aW → Prop} : ∀ (n pc : Nat) (ls : aL) (st : List Value) (σ : aW), aX l d sc o cc ty Q n pc ls st σ → ∃ r σ', aX l d sc o cc ty (fun r' σ'' => r' = r ∧ σ'' = σ') n pc ls st σ ∧ Q r σ' := by
  intro n
  induction n with
  | zero => exact fun _ _ _ _ h => h.elim
  | succ n ih =>
    intro pc ls st σ h
    obtain ⟨i, len, h1, h2, h3⟩ := h
    have key : ∃ r σ', XR l d (fun r' σ'' => r' = r ∧ σ'' = σ') pc ls σ (aX l d sc o cc ty (fun r' σ'' => r' = r ∧ σ'' = σ') n) (stepA sc o ty i pc ls st σ) ∧ Q r σ' := by
      revert h3
      generalize stepA sc o ty i pc ls st σ = r
      rcases r with _ | ⟨q⟩ | ⟨v⟩ | ⟨q⟩
      · exact fun h => h.elim
      · exact fun h => ih _ _ _ _ h
      · exact fun h => ⟨v, σ, ⟨rfl, rfl⟩, h⟩
      · rintro ⟨r, σ', a, b⟩
        obtain ⟨r2, σ2, c1, c2⟩ := ih _ _ _ _ b
        exact ⟨r2, σ2, ⟨r, σ', a, c1⟩, c2⟩
    obtain ⟨r, σ', a, b⟩ := key
    exact ⟨r, σ', ⟨i, len, h1, h2, a⟩, b⟩
