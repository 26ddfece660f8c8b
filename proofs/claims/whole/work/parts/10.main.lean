section SND4
variable {p : Program} {l : Launch} {e : Env} {R : Room} {s : State} {m : MethodId} {args : Array Value} {below : List Frame} {meth : Method} {c : Code} {cells slots : Nat} {Z : State → Prop} {g : aG} {A : Nat → Prop} {d : Nat} {sc : Option (Nat × (Nat → Int32))} {o : Nat} {cc : ByteArray} {ty : Option FieldType} {nL : Nat} {Q : Option Value → aW → Prop} {K : Nat → aL → List Value → aW → Prop}
def aEnd (p : Program) (l : Launch) (e : Env) (R : Room) (s : State) (m : MethodId) (args : Array Value) (below : List Frame) (meth : Method) (c : Code) (cells slots : Nat) (Z : State → Prop) (g : aG) (A : Nat → Prop) (cc : ByteArray) (ty : Option FieldType) (Q : Option Value → aW → Prop) : Prop :=
  (∀ (σ : aW) (H : Heap) (locs : List Loc) (pc : Nat) (ls' : Array Slot), Q none σ → va_P g.1 classes (rws g σ) H → va_S A s.heap H locs → decode cc pc = .ok (.return_, 1) → ty = none → W p l e R s m args below meth c H locs cells slots Z (F0 m pc ls' [])) ∧
  (∀ (x : Int32) (σ : aW) (H : Heap) (locs : List Loc) (pc : Nat) (ls' : Array Slot), Q (some (.int x)) σ → va_P g.1 classes (rws g σ) H → va_S A s.heap H locs → decode cc pc = .ok (.ireturn, 1) → (ty = some .int ∨ (ty = some .boolean ∧ (x = 0 ∨ x = 1))) → W p l e R s m args below meth c H locs cells slots Z (F0 m pc ls' [.int x]))
set_option maxHeartbeats 4000000 in
theorem step_sound (hC : aCtx p R s m args c g A d sc o cc nL cells slots) (hG : aGo p l e R s m args below meth c cells slots Z g A nL K) (hE : aEnd p l e R s m args below meth c cells slots Z g A cc ty Q)
    {i : Instr} {len pc : Nat} {ls : aL} {st : List Value} {σ : aW} {H : Heap} {locs : List Loc} {ls' : Array Slot} (hd : decode cc pc = .ok (i, len)) (hlen : len = lenI i len) (h : XR l d Q pc ls σ K (stepA sc o ty i pc ls st σ))
    (hP : va_P g.1 classes (rws g σ) H) (hS : va_S A s.heap H locs) (hl : lo_has g.2.1 ls' nL ls) : W p l e R s m args below meth c H locs cells slots Z (F0 m pc ls' (st.map (rv g.2.1))) := by
  have hC0 := hC
  obtain ⟨hx, hb, hml, hown, hts, hK, hNw, hinj, hAd, hAq, hR, hcs, hsc⟩ := hC0
  cases i
  case iconst n => rw [show len = 1 from hlen] at hd; exact lv_iconst hx hb hd rfl (s_nx hG hP hS hl h)
  case bipush n => rw [show len = 2 from hlen] at hd; exact lv_bipush hx hb hd rfl (s_nx hG hP hS hl h)
  case sipush n => rw [show len = 3 from hlen] at hd; exact lv_sipush hx hb hd rfl (s_nx hG hP hS hl h)
  case lconst n => rw [show len = 1 from hlen] at hd; exact lv_lconst hx hb hd rfl (s_nx hG hP hS hl h)
  case ldc n =>
    rw [show len = 2 from hlen] at hd
    have h : XR l d Q pc ls σ K ((kl o n).bind fun v => nx (pc + 2) ls (.int v :: st) σ) := h
    cases hk : kl o n with
    | none => rw [hk] at h; exact h.elim
    | some v => rw [hk] at h; exact lv_ldc hx hb hown (hts _ (kl_ok hk)) hd (s_nx hG hP hS hl h)
  case ldc_w n =>
    rw [show len = 3 from hlen] at hd
    have h : XR l d Q pc ls σ K ((kl o n).bind fun v => nx (pc + 3) ls (.int v :: st) σ) := h
    cases hk : kl o n with
    | none => rw [hk] at h; exact h.elim
    | some v => rw [hk] at h; exact lv_ldcw hx hb hown (hts _ (kl_ok hk)) hd (s_nx hG hP hS hl h)
  case ldc2_w n =>
    rw [show len = 3 from hlen] at hd
    have h : XR l d Q pc ls σ K ((kL o n).bind fun v => nx (pc + 3) ls (.long v :: st) σ) := h
    cases hk : kL o n with
    | none => rw [hk] at h; exact h.elim
    | some v => rw [hk] at h; exact lv_ldc2 hx hb hown (hts _ (kL_ok hk)) hd (s_nx hG hP hS hl h)
  case iload_n k => rw [show len = 1 from hlen] at hd; exact s_ldI hG hP hS hl (fun x hx2 w => lv_iload_n hx hb hd rfl hx2 w) h
  case iload k => rw [show len = 2 from hlen] at hd; exact s_ldI hG hP hS hl (fun x hx2 w => lv_iload hx hb hd hx2 w) h
  case lload_n k => rw [show len = 1 from hlen] at hd; exact s_ldL hG hP hS hl (fun x hx2 w => lv_lload_n hx hb hd rfl hx2 w) h
  case lload k => rw [show len = 2 from hlen] at hd; exact s_ldL hG hP hS hl (fun x hx2 w => lv_lload hx hb hd hx2 w) h
  case aload_n k => rw [show len = 1 from hlen] at hd; exact s_ldA hG hP hS hl (fun x hx2 w => lv_aload_n hx hb hd rfl hx2 w) h
  case aload k => rw [show len = 2 from hlen] at hd; exact s_ldA hG hP hS hl (fun x hx2 w => lv_aload hx hb hd hx2 w) h
  case istore_n k => rw [show len = 1 from hlen] at hd; exact s_stI hG hP hS hl (fun x r h1 h2 w => lv_istore_n hx hb hd rfl h1 h2 rfl w) h
  case istore k => rw [show len = 2 from hlen] at hd; exact s_stI hG hP hS hl (fun x r h1 h2 w => lv_istore hx hb hd h1 h2 rfl w) h
  case lstore_n k => rw [show len = 1 from hlen] at hd; exact s_stL hG hP hS hl (fun x r h1 h2 w => lv_lstore_n hx hb hd rfl h1 h2 rfl w) h
  case lstore k => rw [show len = 2 from hlen] at hd; exact s_stL hG hP hS hl (fun x r h1 h2 w => lv_lstore hx hb hd h1 h2 rfl w) h
  case astore_n k => rw [show len = 1 from hlen] at hd; exact s_stA hG hP hS hl (fun x r h1 h2 w => lv_astore_n hx hb hd rfl h1 h2 rfl w) h
  case astore k => rw [show len = 2 from hlen] at hd; exact s_stA hG hP hS hl (fun x r h1 h2 w => lv_astore hx hb hd h1 h2 rfl w) h
  case iinc k n => rw [show len = 3 from hlen] at hd; exact s_inc hG hP hS hl hx hb hd h
  case iadd => rw [show len = 1 from hlen] at hd; exact s_bin hG hP hS hl (fun x y r w => lv_iadd hx hb hd w) h
  case isub => rw [show len = 1 from hlen] at hd; exact s_bin hG hP hS hl (fun x y r w => lv_isub hx hb hd w) h
  case imul => rw [show len = 1 from hlen] at hd; exact s_bin hG hP hS hl (fun x y r w => lv_imul hx hb hd w) h
  case iand => rw [show len = 1 from hlen] at hd; exact s_bin hG hP hS hl (fun x y r w => lv_iand hx hb hd w) h
  case ior => rw [show len = 1 from hlen] at hd; exact s_bin hG hP hS hl (fun x y r w => lv_ior hx hb hd w) h
  case ixor => rw [show len = 1 from hlen] at hd; exact s_bin hG hP hS hl (fun x y r w => lv_ixor hx hb hd w) h
  case ishl => rw [show len = 1 from hlen] at hd; exact s_bin hG hP hS hl (fun x y r w => lv_ishl hx hb hd w) h
  case ishr => rw [show len = 1 from hlen] at hd; exact s_bin hG hP hS hl (fun x y r w => lv_ishr hx hb hd w) h
  case iushr => rw [show len = 1 from hlen] at hd; exact s_bin hG hP hS hl (fun x y r w => lv_iushr hx hb hd rfl w) h
  case idiv => rw [show len = 1 from hlen] at hd; exact s_divI hG hP hS hl (fun x y r h0 w => lv_idiv hx hb hd h0 w) h
  case irem => rw [show len = 1 from hlen] at hd; exact s_divI hG hP hS hl (fun x y r h0 w => lv_irem hx hb hd h0 w) h
  case ladd => rw [show len = 1 from hlen] at hd; exact s_binL hG hP hS hl (fun x y r w => lv_ladd hx hb hd w) h
  case lmul => rw [show len = 1 from hlen] at hd; exact s_binL hG hP hS hl (fun x y r w => lv_lmul hx hb hd w) h
  case land => rw [show len = 1 from hlen] at hd; exact s_binL hG hP hS hl (fun x y r w => lv_land hx hb hd w) h
  case ldiv => rw [show len = 1 from hlen] at hd; exact s_divL hG hP hS hl (fun x y r h0 w => lv_ldiv hx hb hd h0 w) h
  case lrem => rw [show len = 1 from hlen] at hd; exact s_divL hG hP hS hl (fun x y r h0 w => lv_lrem hx hb hd h0 w) h
  case i2l =>
    rw [show len = 1 from hlen] at hd
    have h : XR l d Q pc ls σ K (cnv pc ls st σ) := h
    unfold cnv at h
    split at h
    · exact lv_i2l hx hb hd rfl (s_nx hG hP hS hl h)
    · exact h.elim
  case l2i =>
    rw [show len = 1 from hlen] at hd
    have h : XR l d Q pc ls σ K (cnvL pc ls st σ) := h
    unfold cnvL at h
    split at h
    · exact lv_l2i hx hb hd rfl (s_nx hG hP hS hl h)
    · exact h.elim
  case lcmp =>
    rw [show len = 1 from hlen] at hd
    have h : XR l d Q pc ls σ K (lcm pc ls st σ) := h
    unfold lcm at h
    split at h
    · exact W.lcmp hx hb hd (s_nx hG hP hS hl h)
    · exact h.elim
  case dup =>
    rw [show len = 1 from hlen] at hd
    have h : XR l d Q pc ls σ K (du1 pc ls st σ) := h
    unfold du1 at h
    split at h
    · split at h
      · next hv => exact lv_dup hx hb hd (by rw [rv_cat]; exact hv) (s_nx hG hP hS hl h)
      · exact h.elim
    · exact h.elim
  case pop =>
    rw [show len = 1 from hlen] at hd
    have h : XR l d Q pc ls σ K (pp1 pc ls st σ) := h
    unfold pp1 at h
    split at h
    · split at h
      · next hv => exact lv_pop hx hb hd (by rw [rv_cat]; exact hv) (s_nx hG hP hS hl h)
      · exact h.elim
    · exact h.elim
  case dup2 =>
    rw [show len = 1 from hlen] at hd
    have h : XR l d Q pc ls σ K (du2 pc ls st σ) := h
    unfold du2 at h
    split at h
    · split at h
      · next hv => exact lv_dup2_11 hx hb hd (by rw [rv_cat]; exact hv.1) (by rw [rv_cat]; exact hv.2) (s_nx hG hP hS hl h)
      · exact h.elim
    · exact h.elim
  case ifCond cd off =>
    rw [show len = 3 from hlen] at hd
    have h : XR l d Q pc ls σ K (if1 cd off pc ls st σ) := h
    unfold if1 at h
    split at h
    · next x r _ =>
      refine s_br (st := .int x :: r) hG hP hS hl (fun ht kt kf => ?_) h
      cases cd
      · exact lv_if_eq hx hb hd ht (fun q => kt (decide_eq_true q)) (fun q => kf (decide_eq_false q))
      · exact lv_if_ne hx hb hd ht (fun q => kt (by show (!decide (x = 0)) = true; rw [decide_eq_false q]; rfl)) (fun q => kf (by show (!decide (x = 0)) = false; rw [decide_eq_true q]; rfl))
      · exact lv_if_lt hx hb hd ht (fun q => kt (decide_eq_true q)) (fun q => kf (decide_eq_false q))
      · exact lv_if_ge hx hb hd ht (fun q => kt (decide_eq_true q)) (fun q => kf (decide_eq_false q))
      · exact lv_if_gt hx hb hd ht (fun q => kt (decide_eq_true q)) (fun q => kf (decide_eq_false q))
      · exact lv_if_le hx hb hd ht (fun q => kt (decide_eq_true q)) (fun q => kf (decide_eq_false q))
    · exact h.elim
  case if_icmp cd off =>
    rw [show len = 3 from hlen] at hd
    have h : XR l d Q pc ls σ K (if2 cd off pc ls st σ) := h
    unfold if2 at h
    split at h
    · next y x r _ =>
      refine s_br (st := .int y :: .int x :: r) hG hP hS hl (fun ht kt kf => ?_) h
      cases cd
      · exact lv_icmp_eq hx hb hd ht (fun q => kt (decide_eq_true q)) (fun q => kf (decide_eq_false q))
      · exact lv_icmp_ne hx hb hd ht (fun q => kt (by show (!decide (x = y)) = true; rw [decide_eq_false q]; rfl)) (fun q => kf (by show (!decide (x = y)) = false; rw [decide_eq_true q]; rfl))
      · exact lv_icmp_lt hx hb hd ht (fun q => kt (decide_eq_true q)) (fun q => kf (decide_eq_false q))
      · exact lv_icmp_ge hx hb hd ht (fun q => kt (decide_eq_true q)) (fun q => kf (decide_eq_false q))
      · exact lv_icmp_gt hx hb hd ht (fun q => kt (decide_eq_true q)) (fun q => kf (decide_eq_false q))
      · exact lv_icmp_le hx hb hd ht (fun q => kt (decide_eq_true q)) (fun q => kf (decide_eq_false q))
    · exact h.elim
  case ifnull off =>
    rw [show len = 3 from hlen] at hd
    have h : XR l d Q pc ls σ K (ifn false off pc ls st σ) := h
    unfold ifn at h
    split at h
    · next a r _ => exact s_br (st := .ref a :: r) hG hP hS hl (fun ht kt kf => lv_ifnull hx hb hd (kf rfl)) h
    · exact h.elim
  case ifnonnull off =>
    rw [show len = 3 from hlen] at hd
    have h : XR l d Q pc ls σ K (ifn true off pc ls st σ) := h
    unfold ifn at h
    split at h
    · next a r _ => exact s_br (st := .ref a :: r) hG hP hS hl (fun ht kt kf => lv_ifnonnull hx hb hd ht (kt rfl)) h
    · exact h.elim
  case goto off => rw [show len = 3 from hlen] at hd; exact s_br (b := true) (r := st) hG hP hS hl (fun ht kt kf => lv_goto hx hb hd ht (kt rfl)) h
  case tableswitch dflt lo hi offs => exact s_swt hC hG hP hS hl hd h
  case getfield i => rw [show len = 3 from hlen] at hd; exact s_gtF hC hG hP hS hl hd h
  case putfield i => rw [show len = 3 from hlen] at hd; exact s_ptF hC hG hP hS hl hd h
  case iaload => rw [show len = 1 from hlen] at hd; exact s_iald hC hG hP hS hl hd h
  case baload => rw [show len = 1 from hlen] at hd; exact s_zald hC hG hP hS hl hd h
  case iastore => rw [show len = 1 from hlen] at hd; exact s_iast hC hG hP hS hl hd h
  case bastore => rw [show len = 1 from hlen] at hd; exact s_zast hC hG hP hS hl hd h
  case aaload => rw [show len = 1 from hlen] at hd; exact s_aald hC hG hP hS hl hd h
  case arraylength => rw [show len = 1 from hlen] at hd; exact s_aln hC hG hP hS hl hd h
  case invokevirtual i => rw [show len = 3 from hlen] at hd; exact s_ivV hC hG hP hS hl hd h
  case invokestatic i => rw [show len = 3 from hlen] at hd; exact s_ivS hC hG hP hS hl hd h
  case ireturn =>
    rw [show len = 1 from hlen] at hd
    have h : XR l d Q pc ls σ K (rtI ty st) := h
    unfold rtI at h
    split at h
    · split at h
      · next hv => exact hE.2 _ _ _ _ _ _ h hP hS hd hv
      · exact h.elim
    · exact h.elim
  case return_ =>
    rw [show len = 1 from hlen] at hd
    have h : XR l d Q pc ls σ K (rtV ty st) := h
    unfold rtV at h
    split at h
    · split at h
      · next hv => exact hE.1 _ _ _ _ _ h hP hS hd hv
      · exact h.elim
    · exact h.elim
  all_goals exact False.elim h
theorem X_sound (hC : aCtx p R s m args c g A d sc o cc nL cells slots) (hE : aEnd p l e R s m args below meth c cells slots Z g A cc ty Q) : ∀ n : Nat, aGo p l e R s m args below meth c cells slots Z g A nL (aX l d sc o cc ty Q n) := by
  intro n
  induction n with
  | zero => exact fun _ _ _ _ _ _ _ h => h.elim
  | succ n ih =>
    intro pc ls st σ H locs ls' h hP hS hl
    obtain ⟨i, len, h1, h2, h3⟩ := h
    exact step_sound hC ih hE h1 h2 h3 hP hS hl
theorem E_sound (hC : aCtx p R s m args c g A d sc o cc nL cells slots) (hE : aEnd p l e R s m args below meth c cells slots Z g A cc ty Q) {pc : Nat} {ls : aL} {st : List Value} {σ : aW} {H : Heap} {locs : List Loc} {ls' : Array Slot} (h : aE l d sc o cc ty Q pc ls st σ)
    (hP : va_P g.1 classes (rws g σ) H) (hS : va_S A s.heap H locs) (hl : lo_has g.2.1 ls' nL ls) : W p l e R s m args below meth c H locs cells slots Z (F0 m pc ls' (st.map (rv g.2.1))) := by
  obtain ⟨n, h⟩ := h
  exact X_sound hC hE n _ _ _ _ _ _ _ h hP hS hl
end SND4
/-- the locals at a method's entry -/
def ent : List Value → List (Option Value)
  | [] => []
  | v :: t => if v.category = 2 then some v :: none :: ent t else some v :: ent t
def entL (as : List Value) (n : Nat) : aL := ent as ++ List.replicate (n - (ent as).length) none
theorem ent_len (ad : Nat → Nat) : ∀ as : List Value, (lg_sl (as.map (rv ad))).length = (ent as).length
  | [] => rfl
  | v :: t => by
    show (lg_sl (rv ad v :: t.map (rv ad))).length = _
    unfold lg_sl ent
    rw [List.flatMap_cons, List.length_append, rv_cat]
    have := ent_len ad t
    unfold lg_sl at this
    rw [this]
    split <;> simp <;> omega
theorem ent_args (ad : Nat → Nat) : ∀ (as : List Value) (i k : Nat) (v : Value), (ent as)[k]? = some (some v) → (i + k, rv ad v) ∈ lv_args i (as.map (rv ad))
  | [], i, k, v, h => by simp [ent] at h
  | w :: t, i, k, v, h => by
    show (i + k, rv ad v) ∈ (i, rv ad w) :: lv_args (if (rv ad w).category = 2 then i + 2 else i + 1) (t.map (rv ad))
    unfold ent at h
    rw [rv_cat]
    by_cases hc : w.category = 2
    · rw [if_pos hc] at h ⊢
      match k, h with
      | 0, h => cases h; exact List.mem_cons_self
      | 1, h => cases h
      | k + 2, h =>
        have := ent_args ad t (i + 2) k v h
        rw [show i + (k + 2) = i + 2 + k by omega]
        exact List.mem_cons_of_mem _ this
    · rw [if_neg hc] at h ⊢
      match k, h with
      | 0, h => cases h; exact List.mem_cons_self
      | k + 1, h =>
        have := ent_args ad t (i + 1) k v h
        rw [show i + (k + 1) = i + 1 + k by omega]
        exact List.mem_cons_of_mem _ this
theorem ent_lo (ad : Nat → Nat) (as : List Value) (n : Nat) (hn : (ent as).length ≤ n) : lo_has ad ((lg_sl (as.map (rv ad)) ++ List.replicate (n - (lg_sl (as.map (rv ad))).length) Slot.unset).toArray) n (entL as n) := by
  have h := lv_entry (as.map (rv ad)) (n := n) (by rw [ent_len]; exact hn)
  refine ⟨by unfold entL; simp; omega, h.1, h.2.1, fun k v hk => ?_⟩
  unfold entL at hk
  by_cases hl : k < (ent as).length
  · rw [List.getElem?_append_left hl] at hk
    have := ent_args ad as 0 k v hk
    rw [Nat.zero_add] at this
    exact h.2.2 _ this
  · rw [List.getElem?_append_right (by omega)] at hk
    rw [List.getElem?_replicate] at hk
    split at hk <;> cases hk
/-- a method's run in the abstract machine is a contract of the machine's -/
theorem Sem_of {l : Launch} {d j : Nat} {as : List Value} {σ σ' : aW} {r : Option Value} {mm : aM} (hm : mtt[j]? = some mm) (hn : (ent as).length ≤ mm.2.2.1) (h : aE l d none mm.2.2.2.2.2.1 mm.2.1 mm.2.2.2.1 (fun r' σ'' => r' = r ∧ σ'' = σ') 0 (entL as mm.2.2.1) [] σ) : Sem l (d + 1) j as σ r σ' := by
  refine ⟨mm, hm, fun g sz => ?_⟩
  obtain ⟨⟨n1, n2, n3, n4⟩, n5, n6, n7, n8, n9⟩ := mtt_at hm
  refine Met.ofW (cc := mm.2.1) (maxL := mm.2.2.1) (ret := mm.2.2.2.1) n1 rfl ?_
  intro p e s m args below meth c s₁ B hml hv
  obtain ⟨rfl, hsz, hP, hK, hNw, hD0⟩ := hv
  have hts0 := atoms_spec (ws := Cond.code mm.1 mm.2.1 mm.2.2.1 mm.2.2.2.1 :: gw) B.pre
  have hts : ∀ w ∈ gw, w.before (as.map (rv g.2.1)).toArray s = true := fun w hw => hts0 w (List.mem_cons_of_mem _ hw)
  have hown : s.vm.findClass mm.1.cls = some m.cls := findClass_of_methodNamed B.named
  have hlocks := B.notSynchronized
  subst hsz
  have hinj : ∀ i j, i < NP → j < NP → g.2.1 i = g.2.1 j → i = j := fun i j hi hj e9 => hD0.1 i j _ _ (rws_at g σ hi) (rws_at g σ hj) e9
  have hC : aCtx p (RD (d + 1)) s m (as.map (rv g.2.1)).toArray c g (va_A (rws g σ) s.heap.size) d none mm.2.2.2.2.2.1 mm.2.1 mm.2.2.1 0 0 :=
    ⟨B.exec, B.bytes, hml, by rw [← n5]; exact hown, hts, hK, hNw, hinj, fun i hi => Or.inl ⟨i, _, rws_at g σ hi⟩, fun q hq => Or.inr hq, ⟨Nat.le_refl _, Nat.le_refl _⟩, ⟨Nat.zero_le _, Nat.zero_le _⟩, fun q hq => by cases hq⟩
  have hE : aEnd p l e (RD (d + 1)) s m (as.map (rv g.2.1)).toArray below meth c 0 0 (MQ below (aPost g s.heap.size σ r σ') (as.map (rv g.2.1)).toArray s 0 0 (va_A (rws g σ) s.heap.size)) g (va_A (rws g σ) s.heap.size) mm.2.1 mm.2.2.2.1 (fun r' σ'' => r' = r ∧ σ'' = σ') := by
    refine ⟨fun τ H locs pc ls' hq hP9 hS9 hd9 hty => ?_, fun x τ H locs pc ls' hq hP9 hS9 hd9 hty => ?_⟩
    · obtain ⟨rfl, rfl⟩ := hq
      exact W.vret B.exec B.bytes (by rw [B.returns, hty]) (fun t ht hW => ⟨⟨rfl, by rw [ht]; exact hP9⟩, hS9.F ht⟩) hS9.2.2 hd9
    · obtain ⟨rfl, rfl⟩ := hq
      rcases hty with hty | ⟨hty, hx⟩
      · exact W.iret B.exec B.bytes (by rw [B.returns, hty]) (fun t ht hW => ⟨⟨rfl, by rw [ht]; exact hP9⟩, hS9.F ht⟩) hS9.2.2 hd9
      · exact W.zret (ty := .boolean) B.exec B.bytes (by rw [B.returns, hty]) (by rcases hx with rfl | rfl <;> decide +kernel) (fun t ht hW => ⟨⟨rfl, by rw [ht]; exact hP9⟩, hS9.F ht⟩) hS9.2.2 hd9
  rw [lg_entry_eq]
  exact E_sound (st := []) hC hE h hP va_S.rf (ent_lo g.2.1 as mm.2.2.1 hn)
theorem aC_of {l : Launch} {d j : Nat} {as : List Value} {σ : aW} {post : Option Value → aW → Prop} {mm : aM} (hm : mtt[j]? = some mm) (hn : (ent as).length ≤ mm.2.2.1) (h : aE l d none mm.2.2.2.2.2.1 mm.2.1 mm.2.2.2.1 post 0 (entL as mm.2.2.1) [] σ) : aC l (d + 1) j as σ post := by
  obtain ⟨n, h⟩ := h
  obtain ⟨r, σ', h1, h2⟩ := X_ex _ _ _ _ _ h
  exact ⟨r, σ', Sem_of hm hn ⟨n, h1⟩, h2⟩
