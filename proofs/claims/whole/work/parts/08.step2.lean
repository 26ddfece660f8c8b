section SND2
variable {p : Program} {l : Launch} {e : Env} {R : Room} {s : State} {m : MethodId} {args : Array Value} {below : List Frame} {meth : Method} {c : Code} {cells slots : Nat} {Z : State → Prop} {g : aG} {A : Nat → Prop} {d : Nat} {sc : Option (Nat × (Nat → Int32))} {o : Nat} {cc : ByteArray} {ty : Option FieldType} {nL : Nat} {Q : Option Value → aW → Prop} {K : Nat → aL → List Value → aW → Prop} {pc : Nat} {ls : aL} {st : List Value} {σ : aW} {H : Heap} {locs : List Loc} {ls' : Array Slot}
theorem s_gtF {i : Nat} (hC : aCtx p R s m args c g A d sc o cc nL cells slots) (hG : aGo p l e R s m args below meth c cells slots Z g A nL K) (hP : va_P g.1 classes (rws g σ) H) (hS : va_S A s.heap H locs) (hl : lo_has g.2.1 ls' nL ls) (hd : decode cc pc = .ok (.getfield i, 3))
    (h : XR l d Q pc ls σ K (gtF o i pc ls st σ)) : W p l e R s m args below meth c H locs cells slots Z (F0 m pc ls' (st.map (rv g.2.1))) := by
  obtain ⟨hx, hb, hml, hown, hts, hK, hNw, hinj, hAd, hAq, hR, hcs, hsc⟩ := hC
  unfold gtF at h
  split at h
  · next a r =>
    split at h
    · next q hq =>
      by_cases hc : cls a = q.1
      · rw [if_pos hc] at h
        obtain ⟨C, T, N, h1, h2, h3⟩ := fl_ok hq
        obtain ⟨sl, hsl⟩ := cls_spec hc (fun e9 => by simp only [e9] at h1; cases h1)
        rw [slt_at hsl] at h
        have hat := rws_at g σ (shl_lt hsl)
        rw [rc_obj hsl] at hat
        have okc := classes_ok _ (List.mem_of_getElem? h1)
        split at h
        · next hk =>
          refine va_get (v := .int (σ a q.2)) hx hb hts okc.1 hown hK hP a hat h1 q.2 h2 (hts _ h3) (fun _ h9 => h9) ?_ hd (s_nx hG hP hS hl h)
          rw [rfs_at, hk]
          rfl
        · next t hk =>
          refine va_get (v := .ref (g.2.1 t)) hx hb hts okc.1 hown hK hP a hat h1 q.2 h2 (hts _ h3) (fun _ h9 => h9) ?_ hd (s_nx hG hP hS hl h)
          rw [rfs_at, hk]
          rfl
        · exact h.elim
      · rw [if_neg hc] at h; exact h.elim
    · exact h.elim
  · exact h.elim
theorem s_ptF {i : Nat} (hC : aCtx p R s m args c g A d sc o cc nL cells slots) (hG : aGo p l e R s m args below meth c cells slots Z g A nL K) (hP : va_P g.1 classes (rws g σ) H) (hS : va_S A s.heap H locs) (hl : lo_has g.2.1 ls' nL ls) (hd : decode cc pc = .ok (.putfield i, 3))
    (h : XR l d Q pc ls σ K (ptF o i pc ls st σ)) : W p l e R s m args below meth c H locs cells slots Z (F0 m pc ls' (st.map (rv g.2.1))) := by
  obtain ⟨hx, hb, hml, hown, hts, hK, hNw, hinj, hAd, hAq, hR, hcs, hsc⟩ := hC
  unfold ptF at h
  split at h
  · next v a r =>
    split at h
    · next q hq =>
      by_cases hc : cls a = q.1 ∧ slt a q.2 = some none
      · rw [if_pos hc] at h
        obtain ⟨C, T, N, h1, h2, h3⟩ := fl_ok hq
        obtain ⟨sl, hsl⟩ := cls_spec hc.1 (fun e9 => by simp only [e9] at h1; cases h1)
        have hk := hc.2
        rw [slt_at hsl] at hk
        have hat := rws_at g σ (shl_lt hsl)
        rw [rc_obj hsl] at hat
        have okc := classes_ok _ (List.mem_of_getElem? h1)
        obtain ⟨ty0, hty⟩ := okc.2.1
        have hlay := lay_ok hsl hk h1
        have hlen : q.2 < (rfs g.2.1 (σ a) sl).length := by
          have := (List.getElem?_eq_some_iff.mp hk).1
          simp [rfs]; exact this
        refine va_put (v := .int v) (ty := .int) hx hb hts okc.1 ty0 hty okc.2.2 hown hK hP (rws_D hinj hAd) hS a hat h1 q.2 h2 (hts _ h3) (fun _ h9 => h9) hlay.1 (by rw [hlay.2]; decide +kernel) rfl rfl hlen hd (fun H1 locs1 hP1 _ hS1 => ?_)
        rw [rfs_set _ _ _ _ _ hk, ← rc_obj (g := g) hsl (upd (σ a) q.2 v), rws_set (shl_lt hsl)] at hP1
        exact hG _ _ _ _ _ _ _ h hP1 hS1 hl
      · rw [if_neg hc] at h; exact h.elim
    · exact h.elim
  · exact h.elim
theorem atys_at {g : aG} {k n a : Nat} {t : List Nat} (h : shl[a]? = some (.inr (k, n, t))) : ∃ ft, (atys g)[k]? = some (g.2.2 k, ft) ∧ (k = 0 → ft = .int) ∧ (k = 1 → ft = .boolean) ∧ (¬ k < 2 → ft.isReference = true) := by
  have hk := (lay_arr h).1
  rcases (show k = 0 ∨ k = 1 ∨ k = 2 ∨ k = 3 by omega) with rfl | rfl | rfl | rfl
  · exact ⟨.int, rfl, fun _ => rfl, fun q => by omega, fun q => by omega⟩
  · exact ⟨.boolean, rfl, fun q => by omega, fun _ => rfl, fun q => by omega⟩
  · exact ⟨.object RX7, rfl, fun q => by omega, fun q => by omega, fun _ => rfl⟩
  · exact ⟨.array .int, rfl, fun q => by omega, fun q => by omega, fun _ => rfl⟩
theorem s_iald (hC : aCtx p R s m args c g A d sc o cc nL cells slots) (hG : aGo p l e R s m args below meth c cells slots Z g A nL K) (hP : va_P g.1 classes (rws g σ) H) (hS : va_S A s.heap H locs) (hl : lo_has g.2.1 ls' nL ls) (hd : decode cc pc = .ok (.iaload, 1))
    (h : XR l d Q pc ls σ K (ald sc 0 pc ls st σ)) : W p l e R s m args below meth c H locs cells slots Z (F0 m pc ls' (st.map (rv g.2.1))) := by
  obtain ⟨hx, hb, hml, hown, hts, hK, hNw, hinj, hAd, hAq, hR, hcs, hsc⟩ := hC
  unfold ald at h
  split at h
  · next i a r =>
    by_cases hk : akd a = 0
    · rw [if_pos hk] at h
      obtain ⟨n, t, h1, h2⟩ := akd_spec hk (by decide)
      rw [h2] at h
      have hat := rws_at g σ (shl_lt h1)
      rw [rc_arr h1 (by decide)] at hat
      by_cases hi : i < 0 ∨ n ≤ i.toNatClampNeg
      · rw [if_pos hi] at h; exact h.elim
      · rw [if_neg hi] at h
        exact va_iald hx hb hK hP a 0 hat rfl hi hd (s_nx hG hP hS hl h)
    · rw [if_neg hk] at h
      by_cases ha : a = NP ∧ 0 = 0
      · rw [if_pos ha] at h
        split at h
        · next q =>
          by_cases hi : i < 0 ∨ q.1 ≤ i.toNatClampNeg
          · rw [if_pos hi] at h; exact h.elim
          · rw [if_neg hi] at h
            obtain ⟨g1, g2, g3⟩ := hsc q rfl
            rw [ha.1]
            exact va_sld hx hb g1 g2 g3 hS hi hd (s_nx hG hP hS hl h)
        · exact h.elim
      · rw [if_neg ha] at h; exact h.elim
  · exact h.elim
theorem s_zald (hC : aCtx p R s m args c g A d sc o cc nL cells slots) (hG : aGo p l e R s m args below meth c cells slots Z g A nL K) (hP : va_P g.1 classes (rws g σ) H) (hS : va_S A s.heap H locs) (hl : lo_has g.2.1 ls' nL ls) (hd : decode cc pc = .ok (.baload, 1))
    (h : XR l d Q pc ls σ K (ald none 1 pc ls st σ)) : W p l e R s m args below meth c H locs cells slots Z (F0 m pc ls' (st.map (rv g.2.1))) := by
  obtain ⟨hx, hb, hml, hown, hts, hK, hNw, hinj, hAd, hAq, hR, hcs, hsc⟩ := hC
  unfold ald at h
  split at h
  · next i a r =>
    by_cases hk : akd a = 1
    · rw [if_pos hk] at h
      obtain ⟨n, t, h1, h2⟩ := akd_spec hk (by decide)
      rw [h2] at h
      have hat := rws_at g σ (shl_lt h1)
      rw [rc_arr h1 (by decide)] at hat
      by_cases hi : i < 0 ∨ n ≤ i.toNatClampNeg
      · rw [if_pos hi] at h; exact h.elim
      · rw [if_neg hi] at h
        exact va_zald hx hb hK hP a 1 hat rfl hi hd (s_nx hG hP hS hl h)
    · rw [if_neg hk] at h
      by_cases ha : a = NP ∧ 1 = 0
      · exact absurd ha.2 (by decide)
      · rw [if_neg ha] at h; exact h.elim
  · exact h.elim
theorem s_iast (hC : aCtx p R s m args c g A d sc o cc nL cells slots) (hG : aGo p l e R s m args below meth c cells slots Z g A nL K) (hP : va_P g.1 classes (rws g σ) H) (hS : va_S A s.heap H locs) (hl : lo_has g.2.1 ls' nL ls) (hd : decode cc pc = .ok (.iastore, 1))
    (h : XR l d Q pc ls σ K (ast 0 (fun x => x) pc ls st σ)) : W p l e R s m args below meth c H locs cells slots Z (F0 m pc ls' (st.map (rv g.2.1))) := by
  obtain ⟨hx, hb, hml, hown, hts, hK, hNw, hinj, hAd, hAq, hR, hcs, hsc⟩ := hC
  unfold ast at h
  split at h
  · next x i a r =>
    by_cases hk : akd a = 0
    · rw [if_pos hk] at h
      obtain ⟨n, t, h1, h2⟩ := akd_spec hk (by decide)
      rw [h2] at h
      have hat := rws_at g σ (shl_lt h1)
      rw [rc_arr h1 (by decide)] at hat
      by_cases hi : i < 0 ∨ n ≤ i.toNatClampNeg
      · rw [if_pos hi] at h; exact h.elim
      · rw [if_neg hi] at h
        refine va_iast hx hb hK hP (rws_D hinj hAd) hS a 0 hat rfl hi hd (fun H1 locs1 hP1 _ hS1 => ?_)
        rw [← rc_arr (g := g) h1 (by decide), rws_set (shl_lt h1)] at hP1
        exact hG _ _ _ _ _ _ _ h hP1 hS1 hl
    · rw [if_neg hk] at h; exact h.elim
  · exact h.elim
theorem s_zast (hC : aCtx p R s m args c g A d sc o cc nL cells slots) (hG : aGo p l e R s m args below meth c cells slots Z g A nL K) (hP : va_P g.1 classes (rws g σ) H) (hS : va_S A s.heap H locs) (hl : lo_has g.2.1 ls' nL ls) (hd : decode cc pc = .ok (.bastore, 1))
    (h : XR l d Q pc ls σ K (ast 1 (vp_nar .boolean) pc ls st σ)) : W p l e R s m args below meth c H locs cells slots Z (F0 m pc ls' (st.map (rv g.2.1))) := by
  obtain ⟨hx, hb, hml, hown, hts, hK, hNw, hinj, hAd, hAq, hR, hcs, hsc⟩ := hC
  unfold ast at h
  split at h
  · next x i a r =>
    by_cases hk : akd a = 1
    · rw [if_pos hk] at h
      obtain ⟨n, t, h1, h2⟩ := akd_spec hk (by decide)
      rw [h2] at h
      have hat := rws_at g σ (shl_lt h1)
      rw [rc_arr h1 (by decide)] at hat
      by_cases hi : i < 0 ∨ n ≤ i.toNatClampNeg
      · rw [if_pos hi] at h; exact h.elim
      · rw [if_neg hi] at h
        refine va_zast hx hb hK hP (rws_D hinj hAd) hS a 1 hat rfl hi hd (fun H1 locs1 hP1 _ hS1 => ?_)
        rw [← rc_arr (g := g) h1 (by decide), rws_set (shl_lt h1)] at hP1
        exact hG _ _ _ _ _ _ _ h hP1 hS1 hl
    · rw [if_neg hk] at h; exact h.elim
  · exact h.elim
theorem s_aald (hC : aCtx p R s m args c g A d sc o cc nL cells slots) (hG : aGo p l e R s m args below meth c cells slots Z g A nL K) (hP : va_P g.1 classes (rws g σ) H) (hS : va_S A s.heap H locs) (hl : lo_has g.2.1 ls' nL ls) (hd : decode cc pc = .ok (.aaload, 1))
    (h : XR l d Q pc ls σ K (aald pc ls st σ)) : W p l e R s m args below meth c H locs cells slots Z (F0 m pc ls' (st.map (rv g.2.1))) := by
  obtain ⟨hx, hb, hml, hown, hts, hK, hNw, hinj, hAd, hAq, hR, hcs, hsc⟩ := hC
  unfold aald at h
  split at h
  · next i a r =>
    by_cases hk : akd a = 2 ∨ akd a = 3
    · rw [if_pos hk] at h
      obtain ⟨k, hk2, hk3⟩ : ∃ k, akd a = k ∧ (k = 2 ∨ k = 3) := ⟨_, rfl, hk⟩
      have hnk : ¬ k < 2 := by omega
      obtain ⟨n, t, h1, h2⟩ := akd_spec hk2 (by omega)
      rw [h2] at h
      have hat := rws_at g σ (shl_lt h1)
      rw [rc_ref h1 hnk] at hat
      obtain ⟨ft, q1, -, -, q4⟩ := atys_at (g := g) h1
      have hlen : t.length = n := (lay_arr h1).2.resolve_left hnk
      by_cases hi : i < 0 ∨ n ≤ i.toNatClampNeg
      · rw [if_pos hi] at h; exact h.elim
      · rw [if_neg hi] at h
        have hlt : i.toNatClampNeg < n := Nat.not_le.mp fun q => hi (Or.inr q)
        have hre : rel a i.toNatClampNeg = t[i.toNatClampNeg]'(by rw [hlen]; exact hlt) := by
          unfold rel
          rw [h1]
          simp [hlen, hlt]
        refine W.aald (v := .ref (g.2.1 (rel a i.toNatClampNeg))) (ty := ft) hx hb (hP a _ hat) ((hK.2 k _ q1).1 n _) (q4 hnk) (fun q => by cases q) (by show ¬ (i < 0 ∨ (arrV _ _ _).slots.size ≤ _); rw [arrV_size]; exact hi) ?_ rfl rfl hd (s_nx hG hP hS hl h)
        show (arrV _ _ _).slots[_]? = _
        rw [arrV_read _ _ hlt, hre]
        simp [hlen, hlt, va_rf]
    · rw [if_neg hk] at h; exact h.elim
  · exact h.elim
theorem s_aln (hC : aCtx p R s m args c g A d sc o cc nL cells slots) (hG : aGo p l e R s m args below meth c cells slots Z g A nL K) (hP : va_P g.1 classes (rws g σ) H) (hS : va_S A s.heap H locs) (hl : lo_has g.2.1 ls' nL ls) (hd : decode cc pc = .ok (.arraylength, 1))
    (h : XR l d Q pc ls σ K (aln1 sc pc ls st σ)) : W p l e R s m args below meth c H locs cells slots Z (F0 m pc ls' (st.map (rv g.2.1))) := by
  obtain ⟨hx, hb, hml, hown, hts, hK, hNw, hinj, hAd, hAq, hR, hcs, hsc⟩ := hC
  unfold aln1 at h
  split at h
  · next a r =>
    by_cases ha : a = NP
    · rw [if_pos ha] at h
      split at h
      · next q =>
        obtain ⟨g1, g2, g3⟩ := hsc q rfl
        rw [ha]
        exact va_slen hx hb g1 g2 g3 hS hd (s_nx hG hP hS hl h)
      · exact h.elim
    · rw [if_neg ha] at h; exact h.elim
  · exact h.elim
theorem s_swt {dflt lo hi : Int} {offs : Array Int} {len : Nat} (hC : aCtx p R s m args c g A d sc o cc nL cells slots) (hG : aGo p l e R s m args below meth c cells slots Z g A nL K) (hP : va_P g.1 classes (rws g σ) H) (hS : va_S A s.heap H locs) (hl : lo_has g.2.1 ls' nL ls) (hd : decode cc pc = .ok (.tableswitch dflt lo hi offs, len))
    (h : XR l d Q pc ls σ K (swt dflt lo hi offs pc ls st σ)) : W p l e R s m args below meth c H locs cells slots Z (F0 m pc ls' (st.map (rv g.2.1))) := by
  obtain ⟨hx, hb, hml, hown, hts, hK, hNw, hinj, hAd, hAq, hR, hcs, hsc⟩ := hC
  unfold swt at h
  split at h
  · next x r =>
    split at h
    · next off hoff =>
      by_cases ht : 0 ≤ (pc : Int) + off
      · rw [if_pos ht] at h
        unfold tsw at hoff
        by_cases hr : x.toInt < lo ∨ hi < x.toInt
        · rw [if_pos hr] at hoff
          cases hoff
          exact lv_tableOut hx hb hd hr (tg_eq ht) (s_nx hG hP hS hl h)
        · rw [if_neg hr] at hoff
          exact lv_tableIn hx hb hd (fun q => hr (Or.inl q)) (fun q => hr (Or.inr q)) hoff (tg_eq ht) (s_nx hG hP hS hl h)
      · rw [if_neg ht] at h; exact h.elim
    · exact h.elim
  · exact h.elim
theorem s_max {i : Nat} (hml2 : ml o i = some 1000) (hC : aCtx p R s m args c g A d sc o cc nL cells slots) (hG : aGo p l e R s m args below meth c cells slots Z g A nL K) (hP : va_P g.1 classes (rws g σ) H) (hS : va_S A s.heap H locs) (hl : lo_has g.2.1 ls' nL ls) (hd : decode cc pc = .ok (.invokestatic i, 3))
    (w1 : Cond.static Lib.Math.max.name ∈ gw) (w2 : Cond.initialized "java/lang/Math" ∈ gw) (w3 : Cond.code Lib.Math.max.name Lib.Math.max.code 2 (some .int) ∈ gw)
    (h : XR l d Q pc ls σ K (mm2 (fun x y => if x < y then y else x) pc ls st σ)) : W p l e R s m args below meth c H locs cells slots Z (F0 m pc ls' (st.map (rv g.2.1))) := by
  obtain ⟨hx, hb, hml, hown, hts, hK, hNw, hinj, hAd, hAq, hR, hcs, hsc⟩ := hC
  unfold mm2 at h
  split at h
  · next y x r =>
    by_cases hr : rsz r ≤ 8
    · rw [if_pos hr] at h
      have hlk : Cond.methodLink (cn o) i Lib.Math.max.name ∈ gw := by
        have := ml_ok hml2
        unfold okN at this
        rw [if_pos rfl] at this
        exact this
      exact va_mmax hx hb (hml.trans hl.2.1.symm) hown (hts _ hlk) (hts _ w1) (hts _ w2) (hts _ w3) (by omega) (by rw [rsz_map]; omega) hcs.1 hcs.2 hd (s_nx hG hP hS hl h)
    · rw [if_neg hr] at h; exact h.elim
  · exact h.elim
theorem s_min {i : Nat} (hml2 : ml o i = some 1001) (hC : aCtx p R s m args c g A d sc o cc nL cells slots) (hG : aGo p l e R s m args below meth c cells slots Z g A nL K) (hP : va_P g.1 classes (rws g σ) H) (hS : va_S A s.heap H locs) (hl : lo_has g.2.1 ls' nL ls) (hd : decode cc pc = .ok (.invokestatic i, 3))
    (w1 : Cond.static Lib.Math.min.name ∈ gw) (w2 : Cond.initialized "java/lang/Math" ∈ gw) (w3 : Cond.code Lib.Math.min.name Lib.Math.min.code 2 (some .int) ∈ gw)
    (h : XR l d Q pc ls σ K (mm2 (fun x y => if y < x then y else x) pc ls st σ)) : W p l e R s m args below meth c H locs cells slots Z (F0 m pc ls' (st.map (rv g.2.1))) := by
  obtain ⟨hx, hb, hml, hown, hts, hK, hNw, hinj, hAd, hAq, hR, hcs, hsc⟩ := hC
  unfold mm2 at h
  split at h
  · next y x r =>
    by_cases hr : rsz r ≤ 8
    · rw [if_pos hr] at h
      have hlk : Cond.methodLink (cn o) i Lib.Math.min.name ∈ gw := by
        have := ml_ok hml2
        unfold okN at this
        rw [if_neg (show ¬ 1001 = 1000 by decide), if_pos rfl] at this
        exact this
      exact va_mmin hx hb (hml.trans hl.2.1.symm) hown (hts _ hlk) (hts _ w1) (hts _ w2) (hts _ w3) (by omega) (by rw [rsz_map]; omega) hcs.1 hcs.2 hd (s_nx hG hP hS hl h)
    · rw [if_neg hr] at h; exact h.elim
  · exact h.elim
theorem s_cpy {i : Nat} (hml2 : ml o i = some 1002) (hC : aCtx p R s m args c g A d sc o cc nL cells slots) (hG : aGo p l e R s m args below meth c cells slots Z g A nL K) (hP : va_P g.1 classes (rws g σ) H) (hS : va_S A s.heap H locs) (hl : lo_has g.2.1 ls' nL ls) (hd : decode cc pc = .ok (.invokestatic i, 3))
    (w1 : Cond.native arraycopyName ∈ gw) (w2 : Cond.static arraycopyName ∈ gw) (w3 : Cond.initialized "java/lang/System" ∈ gw)
    (h : XR l d Q pc ls σ K (cpy pc ls st σ)) : W p l e R s m args below meth c H locs cells slots Z (F0 m pc ls' (st.map (rv g.2.1))) := by
  obtain ⟨hx, hb, hml, hown, hts, hK, hNw, hinj, hAd, hAq, hR, hcs, hsc⟩ := hC
  unfold cpy at h
  split at h
  · next n dp b sp a r =>
    split at h
    · next hc =>
      obtain ⟨ka, kb, h1, h2, h3, h4, h5, h6⟩ := hc
      have hlk : Cond.methodLink (cn o) i arraycopyName ∈ gw := by
        have := ml_ok hml2
        unfold okN at this
        rw [if_neg (show ¬ 1002 = 1000 by decide), if_neg (show ¬ 1002 = 1001 by decide), if_pos rfl] at this
        exact this
      obtain ⟨na, ta, a1, a2⟩ := akd_spec ka (by decide)
      obtain ⟨nb, tb, b1, b2⟩ := akd_spec kb (by decide)
      have hata := rws_at g σ (shl_lt a1)
      rw [rc_arr a1 (by decide)] at hata
      have hatb := rws_at g σ (shl_lt b1)
      rw [rc_arr b1 (by decide)] at hatb
      refine va_copyi (ty := .int) hx hb (hml.trans hl.2.1.symm) hown (hts _ hlk) (hts _ w1) (hts _ w2) (hts _ w3) hK hP (rws_D hinj hAd) hS a b 0 0 hata hatb rfl rfl rfl h1 h2 h3 (by rw [← a2]; exact h4) (by rw [← b2]; exact h5) (fun _ _ => rfl) (by omega) (by rw [rsz_map, show nativeFrameWords "java/lang/System" "arraycopy" 5 = 7 by decide +kernel]; omega) hd (fun H1 locs1 hP1 _ hS1 => ?_)
      rw [← rc_arr (g := g) b1 (by decide), rws_set (shl_lt b1)] at hP1
      exact hG _ _ _ _ _ _ _ h hP1 hS1 hl
    · exact h.elim
  · exact h.elim
end SND2
