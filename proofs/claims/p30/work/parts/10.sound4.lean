/-! ===== throws, ends, calls; the whole run ===== -/
def am_tcs : List (String × Nat × Nat) := [("java/lang/IllegalArgumentException", 77, 81), ("java/lang/IllegalStateException", 88, 92), ("java/lang/IndexOutOfBoundsException", 187, 191)]
def am_xup : List String := ["java/lang/RuntimeException", "java/lang/Exception"]
theorem am_xup_ok : ∀ n ∈ am_xup, Bundle.fit n = true := by decide +kernel
theorem am_tcs_ok : (am_tcs.all fun q => decide (Cond.classLink "FencedRows" q.2.1 q.1 ∈ lw_tbl) && decide (Cond.initialized q.1 ∈ lw_tbl) && Bundle.fit q.1 && vx_ot (.classLink "FencedRows" q.2.1 q.1) && vx_ot (.initialized q.1)
    && (vx_atS "FencedRows" q.2.2 q.1 am_xup).all (fun w => decide (w ∈ lw_tbl) && vx_ot w && (goodWord w || am_isN w))) = true := by decide +kernel
noncomputable def am_tk (m : Nat) (q : Nat × am_I) : Bool := match q.2.1 with
  | .athrow => (match am_thr[q.2.2.2.2.2.1]? with
    | none => false
    | some t => decide (t.1 = q.2.2.2.1) && decide (am_tcs[q.2.2.2.1]? = some ((am_xc[q.2.2.2.1]?).getD "", t.2.1, t.2.2.2.1)) && decide (am_cn m = "FencedRows") && decide (am_hh m = [])
      && decide (decode (am_by m) q.1 = .ok (.new t.2.1, 3)) && decide (decode (am_by m) (q.1 + 3) = .ok (.dup, 1))
      && (if q.2.2.2.2.1 = 0 then decide (decode (am_by m) (q.1 + 4) = .ok (.ldc t.2.2.1, 2)) && decide (decode (am_by m) (q.1 + 6) = .ok (.invokespecial t.2.2.2.1, 3)) && decide (decode (am_by m) (q.1 + 9) = .ok (.athrow, 1))
        else decide (decode (am_by m) (q.1 + 4) = .ok (.ldc_w t.2.2.1, 3)) && decide (decode (am_by m) (q.1 + 7) = .ok (.invokespecial t.2.2.2.1, 3)) && decide (decode (am_by m) (q.1 + 10) = .ok (.athrow, 1))))
  | _ => true
noncomputable def am_alltk : List (List (Nat × am_I)) → Nat → Bool
  | [], _ => true
  | c :: r, i => c.all (am_tk i) && am_alltk r (i + 1)
theorem am_tk_ok : am_alltk am_prog 0 = true := by decide +kernel
theorem am_tk_at : ∀ (l : List (List (Nat × am_I))) (i k : Nat) (c : List (Nat × am_I)), am_alltk l i = true → l[k]? = some c → c.all (am_tk (i + k)) = true
  | [], _, _, _, _, hk => by simp at hk
  | c0 :: r, i, 0, c, h, hk => by
    cases hk
    unfold am_alltk at h
    rw [Bool.and_eq_true] at h
    exact h.1
  | c0 :: r, i, k + 1, c, h, hk => by
    unfold am_alltk at h
    rw [Bool.and_eq_true] at h
    have := am_tk_at r (i + 1) k c h.2 hk
    rwa [show i + 1 + k = i + (k + 1) from by omega] at this
theorem am_tk_of {m pc : Nat} {e : am_I} (h : am_tab m pc = some e) : am_tk m (pc, e) = true := by
  unfold am_tab at h
  cases hc : am_prog[m]? with
  | none => rw [hc] at h; simp at h
  | some c =>
    rw [hc] at h
    have h1 := am_tk_at am_prog 0 m c am_tk_ok hc
    rw [Nat.zero_add] at h1
    exact List.all_eq_true.mp h1 _ (am_lookup_mem c pc e h)
theorem am_lt {D : va_G} {cl : List vw_C} {ws : va_W} {H : Heap} (h : va_P D cl ws H) : ∀ (k : Nat) (q : Nat × va_E), ws[k]? = some q → q.1 < H.size := fun k q hk => (h k q hk).lt
section AMZ
variable {p : Program} {l : Launch} {e : Env} {R : Room} {s : State} {mid : MethodId} {args : Array Value} {below : List Frame} {meth : Method} {c : Code}
theorem am_throw_go {m d pc : Nat} {en : am_I} {D : va_G} {A1 : Nat → Prop} {cA : Nat → ClassId} {b : Nat} {h0 : am_H} {ad0 ad : Nat → Nat} {h : am_H} {H : Heap} {locs : List Loc} {cells slots : Nat} {ls st : List Value} {lsc : Array Slot} {o : am_R × am_H} {mc ms : Nat} {Qc : Array Value → State → Outcome → State → Prop}
    (hfl : l.stackTraces = false) (C0 : am_Ct p R s mid args meth c m d D A1 cA b h0) (htab : ∀ x ∈ c.exceptionTable.toList, False) (hf : am_tab m pc = some en) (hi : en.1 = .athrow) (ho : am_fin m en st h = some o)
    (X : am_Dy s m D A1 cA b h0 ad0 ad h H locs cells slots ls lsc st) (hmc : cells + 1 = mc) (hms : slots + 6 = ms) (hRc : mc ≤ R.cells) (hRs : ms ≤ R.slots) :
    W p l e R s mid args below meth c H locs cells slots (vx_MQ below Qc (am_XC D cA b ad0 h0 o A1) args s mc ms A1) (F0 mid pc lsc (st.map (am_cv ad b))) := by
  obtain ⟨hx, hb, hr, hml, hown, hG, hlocks, hini, hext, hA, hK, hscr, hRf, hRl, -⟩ := C0
  obtain ⟨hP, hD, hS, hl, hwh, hwl, hws, hcnt, hle, had⟩ := X
  have hk := am_tk_of hf
  obtain ⟨ins, len, ea, eb, ew, ev⟩ := en
  obtain rfl : ins = .athrow := hi
  dsimp only [am_fin] at ho
  split at ho
  next hst =>
    cases ho
    subst hst
    unfold am_tk at hk
    dsimp only at hk
    cases ht : am_thr[ew]? with
    | none => rw [ht] at hk; cases hk
    | some t =>
      rw [ht] at hk
      dsimp only at hk
      simp only [Bool.and_eq_true, decide_eq_true_eq] at hk
      obtain ⟨⟨⟨⟨⟨⟨h1, h2⟩, h3⟩, h4⟩, d0⟩, d3⟩, h5⟩ := hk
      have hq := List.all_eq_true.mp am_tcs_ok _ (List.mem_of_getElem? h2)
      simp only [Bool.and_eq_true, decide_eq_true_eq] at hq
      obtain ⟨⟨⟨⟨⟨q1, q2⟩, q3⟩, q4⟩, q5⟩, q6⟩ := hq
      have word : ∀ w, w ∈ lw_tbl → vx_ot w = true → (goodWord w || am_isN w) = true → w.before args s = true := by
        intro w g1 g2 g3
        by_cases hg : goodWord w = true
        · exact hG w (List.mem_filter.mpr ⟨g1, hg⟩)
        · have g4 : am_isN w = true := by simpa [hg] using g3
          have g5 : w.onTables = true := by
            unfold vx_ot at g2
            simpa [hg] using g2
          exact va_Nw.use g5 (hext.1 w (List.mem_filter.mpr ⟨g1, g4⟩))
      have hat : ∀ w ∈ vx_atS "FencedRows" t.2.2.2.1 ((am_xc[ea]?).getD "") am_xup, w.before args s = true := by
        intro w hw
        have := List.all_eq_true.mp q6 w hw
        simp only [Bool.and_eq_true, decide_eq_true_eq] at this
        exact word w this.1.1 this.1.2 this.2
      have hgood : ∀ w ∈ Cond.classLink "FencedRows" t.2.1 ((am_xc[ea]?).getD "") :: Cond.initialized ((am_xc[ea]?).getD "") :: vx_atS "FencedRows" t.2.2.2.1 ((am_xc[ea]?).getD "") am_xup, vx_ot w = true := by
        intro w hw
        rcases List.mem_cons.mp hw with rfl | hw
        · exact q4
        rcases List.mem_cons.mp hw with rfl | hw
        · exact q5
        have := List.all_eq_true.mp q6 w hw
        simp only [Bool.and_eq_true, decide_eq_true_eq] at this
        exact this.1.2
      obtain ⟨sa, hsa⟩ := hext.2.1 t (List.mem_of_getElem? ht)
      have hown2 : s.vm.findClass "FencedRows" = some mid.cls := by rw [← h3]; exact hown
      have hlz : lsc.size = c.maxLocals := hl.1.trans hml.symm
      have hxx : ∀ t' : State, s.vm.Alike t'.vm → H.size ≤ t'.heap.size → (∀ q : Nat, q < H.size → t'.heap[q]? = H[q]?) → am_XC D cA b ad0 h0 (.inr ((am_xc[ea]?).getD ""), am_bump h) A1 ((am_xc[ea]?).getD "") s t' := by
        intro t' _ g1 g2
        refine ⟨ad, rfl, ⟨hP.kept (fun k q hk => g2 q.1 (am_lt hP k q hk)), hD, hwh, had⟩, ⟨Nat.le_trans hS.1 g1, fun q g3 g4 => ?_⟩⟩
        rw [g2 q (Nat.lt_of_lt_of_le g3 hS.1)]
        exact hS.2.1 q g3 g4
      have hcl : (Cond.classLink "FencedRows" t.2.1 ((am_xc[ea]?).getD "")).before args s = true := hG _ (List.mem_filter.mpr ⟨q1, rfl⟩)
      have hinit : (Cond.initialized ((am_xc[ea]?).getD "")).before args s = true := hG _ (List.mem_filter.mpr ⟨q2, rfl⟩)
      split at h5
      next =>
        simp only [Bool.and_eq_true, decide_eq_true_eq] at h5
        obtain ⟨⟨d4, d6⟩, d9⟩ := h5
        exact vx_throwS (names := am_xup) (rest := []) hx hb hfl hown2 q3 am_xup_ok hcl hinit hsa hat hgood hext.2.2.1 hext.2.2.2.1 hS hlz d0 d3 d4 d6 d9 (fun x hx => (htab x hx).elim) (by show 2 + 3 < _; omega) (by show 0 + (13 * (2 + 1) + 43) ≤ _; omega) (by omega) (by omega) hlocks hxx hS.2.2 (by omega) (by omega)
      next =>
        simp only [Bool.and_eq_true, decide_eq_true_eq] at h5
        obtain ⟨⟨d4, d7⟩, d10⟩ := h5
        exact vx_throwSW (names := am_xup) (rest := []) hx hb hfl hown2 q3 am_xup_ok hcl hinit hsa hat hgood hext.2.2.1 hext.2.2.2.1 hS hlz d0 d3 d4 d7 d10 (fun x hx => (htab x hx).elim) (by show 2 + 3 < _; omega) (by show 0 + (13 * (2 + 1) + 43) ≤ _; omega) (by omega) (by omega) hlocks hxx hS.2.2 (by omega) (by omega)
  next => cases ho
/-- a method's end -/
theorem am_end_go {m d pc : Nat} {en : am_I} {D : va_G} {A1 : Nat → Prop} {cA : Nat → ClassId} {b : Nat} {h0 : am_H} {ad0 ad : Nat → Nat} {h : am_H} {H : Heap} {locs : List Loc} {cells slots : Nat} {ls st : List Value} {lsc : Array Slot} {o : am_R × am_H} {mc ms : Nat}
    (hfl : l.stackTraces = false) (C0 : am_Ct p R s mid args meth c m d D A1 cA b h0) (htab : am_hh m = [] → ∀ x ∈ c.exceptionTable.toList, False) (hf : am_tab m pc = some en) (ho : am_fin m en st h = some o)
    (X : am_Dy s m D A1 cA b h0 ad0 ad h H locs cells slots ls lsc st) (hmc : mc + h0.2.1.1 = o.2.2.1.1) (hms : ms + h0.2.1.2 = o.2.2.1.2) (hRc : mc ≤ R.cells) (hRs : ms ≤ R.slots) :
    W p l e R s mid args below meth c H locs cells slots (vx_MQ below (am_Qc D cA b ad0 h0 o A1) (am_XC D cA b ad0 h0 o A1) args s mc ms A1) (F0 mid pc lsc (st.map (am_cv ad b))) := by
  by_cases hi : en.1 = .athrow
  · have hh : am_hh m = [] := by
      have hk := am_tk_of hf
      unfold am_tk at hk
      rw [hi] at hk
      dsimp only at hk
      cases ht : am_thr[en.2.2.2.2.1]? with
      | none => rw [ht] at hk; cases hk
      | some t =>
        rw [ht] at hk
        simp only [Bool.and_eq_true, decide_eq_true_eq] at hk
        exact hk.1.1.1.2
    have hb1 : o.2 = am_bump h := by
      obtain ⟨ins, len, ea, eb, ew, ev⟩ := en
      obtain rfl : ins = .athrow := hi
      dsimp only [am_fin] at ho
      split at ho
      next => cases ho; rfl
      next => cases ho
    have e1 : o.2.2.1.1 = h.2.1.1 + 1 := by rw [hb1]; rfl
    have e2 : o.2.2.1.2 = h.2.1.2 + 6 := by rw [hb1]; rfl
    have hcnt := X.2.2.2.2.2.2.2.1
    exact am_throw_go hfl C0 (htab hh) hf hi ho X (by omega) (by omega) hRc hRs
  · obtain ⟨hd, hlen, -⟩ := am_dec hf hi
    obtain ⟨hx, hb, hr, hml, hown, hG, hlocks, hini, hext, hA, hK, hscr, hRf, hRl, -⟩ := C0
    obtain ⟨hP, hD, hS, hl, hwh, hwl, hws, hcnt, hle, had⟩ := X
    have hb1 : o.2 = h := by
      rcases am_fin_h ho with q | q
      · exact q
      · exfalso
        obtain ⟨ins, len, ea, eb, ew, ev⟩ := en
        have e0 : h.2.1.1 + 1 = (am_bump h).2.1.1 := rfl
        cases ins
        all_goals dsimp only [am_fin] at ho
        all_goals (repeat' split at ho)
        all_goals first
          | (cases ho; done)
          | (exact hi rfl)
          | (cases ho; have := congrArg (fun z : am_H => z.2.1.1) q; simp [am_bump] at this)
    have e1 : cells = mc := by rw [hb1] at hmc; omega
    have e2 : slots = ms := by rw [hb1] at hms; omega
    subst e1
    subst e2
    obtain ⟨ins, len, ea, eb, ew, ev⟩ := en
    obtain ⟨o1, o2⟩ := o
    dsimp only at hb1
    subst hb1
    have fin : ∀ (t : State) (rv : Option Value), t.heap = H → (∀ v, rv = some v → am_wv o2.1.length v) → am_Qc D cA b ad0 h0 (.inl rv, o2) A1 args s (.returned (rv.map (am_cv ad b))) t := by
      intro t rv ht hv
      exact ⟨rv, ad, rfl, rfl, ⟨by rw [ht]; exact hP, hD, hwh, had⟩, hv, hS.F ht⟩
    cases ins
    all_goals try (dsimp only [am_fin] at ho; cases ho; done)
    case ireturn =>
      obtain rfl : len = 1 := am_l1 hlen
      dsimp only [am_fin] at ho
      split at ho
      next x =>
        split at ho
        next ty hty =>
          split at ho
          next hn =>
            cases ho
            exact vx_ret (W.zret hx hb (hr.trans hty) hn (fun t ht hW => fin t (some (.int x)) ht (fun v hv => by cases hv; trivial)) hS.2.2 hd (hlocks := hlocks))
          next => cases ho
        next => cases ho
      next => cases ho
    case lreturn =>
      obtain rfl : len = 1 := am_l1 hlen
      dsimp only [am_fin] at ho
      split at ho
      next x =>
        split at ho
        next hty =>
          cases ho
          exact vx_ret (W.lret hx hb (hr.trans hty) (fun t ht hW => fin t (some (.long x)) ht (fun v hv => by cases hv; trivial)) hS.2.2 hd (hlocks := hlocks))
        next => cases ho
      next => cases ho
    case areturn =>
      obtain rfl : len = 1 := am_l1 hlen
      dsimp only [am_fin] at ho
      split at ho
      next x =>
        split at ho
        next hty =>
          cases ho
          exact vx_ret (W.aret hx hb (hr.trans hty) (Or.inl ⟨_, rfl⟩) (Or.inr ⟨_, rfl⟩) (fun t ht hW => fin t (some (.ref x)) ht (fun v hv => by cases hv; exact hws _ List.mem_cons_self)) hS.2.2 hd (hlocks := hlocks))
        next => cases ho
      next =>
        split at ho
        next hty =>
          cases ho
          exact vx_ret (W.aret hx hb (hr.trans hty) (Or.inl ⟨_, rfl⟩) (Or.inl rfl) (fun t ht hW => fin t (some .null) ht (fun v hv => by cases hv; trivial)) hS.2.2 hd (hlocks := hlocks))
        next => cases ho
      next => cases ho
    case return_ =>
      obtain rfl : len = 1 := am_l1 hlen
      dsimp only [am_fin] at ho
      split at ho
      next =>
        split at ho
        next hty =>
          cases ho
          exact vx_ret (W.vret hx hb (hr.trans hty) (fun t ht hW => fin t none ht (fun v hv => by cases hv)) hS.2.2 hd (hlocks := hlocks))
        next => cases ho
      next => cases ho
    case athrow => exact absurd rfl hi
end AMZ
theorem am_mk0 : am_mk 0 = false := by decide +kernel
/-- a method's contract out of its run -/
theorem am_met {l : Launch} {n d y : Nat} {as : List Value} {h : am_H} {o : am_R × am_H} (hfl : l.stackTraces = false) (hS : am_SF l n) (hex : am_ex n d y 0 (am_ent y as) [] h = some o) (hmk : am_mk y = true) (has : ∀ v ∈ as, am_wv h.1.length v) (hcs : am_cs as ≤ am_mx y) (hwh : am_wh h.1)
    (D : va_G) (cA : Nat → ClassId) (b : Nat) (ad : Nat → Nat) (sz : Nat) :
    vx_Met l (am_nm y) (am_cw y :: am_G) (am_rm d (o.2.2.1.1 - h.2.1.1) (o.2.2.1.2 - h.2.1.2)) (va_Pc (as.map (am_cv ad b)) (am_B D cA b ad h sz)) (am_Qc D cA b ad h o (va_A (am_ws ad b cA h.1) sz)) (am_XC D cA b ad h o (va_A (am_ws ad b cA h.1) sz)) (o.2.2.1.1 - h.2.1.1) (o.2.2.1.2 - h.2.1.2) (va_A (am_ws ad b cA h.1) sz) := by
  obtain ⟨hc1, hc2, hc3, hc4⟩ := am_cnt _ _ _ _ _ _ _ _ hex
  have hy0 : y ≠ 0 := fun q => by rw [q, am_mk0] at hmk; cases hmk
  have hmk2 := hmk
  unfold am_mk at hmk2
  simp only [Bool.and_eq_true, decide_eq_true_eq] at hmk2
  obtain ⟨⟨⟨⟨hw1, hw2⟩, hpl⟩, hw3⟩, hw4⟩ := hmk2
  have body : ∀ (p : Program) (e : Env) (s : State) (mid : MethodId) (args : Array Value) (below : List Frame) (meth : Method) (c : Code) (s₁ : State), BodyLoose p l (am_nm y) (headSpec (am_cw y :: am_G) (am_rm d (o.2.2.1.1 - h.2.1.1) (o.2.2.1.2 - h.2.1.2))) (am_by y) (am_mx y) (am_rt y) e s mid args below meth c s₁ → c.maxLocals = am_mx y → (am_hh y = [] → ∀ x ∈ c.exceptionTable.toList, False) → (am_hh y ≠ [] → c.exceptionTable.toList = tableOf (am_hh y)) → va_Pc (as.map (am_cv ad b)) (am_B D cA b ad h sz) args s →
      W p l e (headSpec (am_cw y :: am_G) (am_rm d (o.2.2.1.1 - h.2.1.1) (o.2.2.1.2 - h.2.1.2))).room s mid args below meth c s.heap [] 0 0 (vx_MQ below (am_Qc D cA b ad h o (va_A (am_ws ad b cA h.1) sz)) (am_XC D cA b ad h o (va_A (am_ws ad b cA h.1) sz)) args s (o.2.2.1.1 - h.2.1.1) (o.2.2.1.2 - h.2.1.2) (va_A (am_ws ad b cA h.1) sz)) (entryFrame mid args (am_mx y)) := by
    intro p e s mid args below meth c s₁ B hml ht1 ht2 hv
    obtain ⟨rfl, hsz, hP, hK, hD0, hE, hX3⟩ := hv
    subst hsz
    have hts := atoms_spec (ws := am_cw y :: am_G) B.pre
    have C0 : am_Ct p (am_rm d (o.2.2.1.1 - h.2.1.1) (o.2.2.1.2 - h.2.1.2)) s mid (as.map (am_cv ad b)).toArray meth c y d D (va_A (am_ws ad b cA h.1) s.heap.size) cA b h :=
      ⟨B.exec, B.bytes, B.returns, hml, findClass_of_methodNamed B.named, fun w hw => hts w (List.mem_cons_of_mem _ hw), B.notSynchronized, fun q => (name_of_methodNamed B.named B.method).1.trans q, hE, fun q hq => Or.inr hq, hK, hX3, Nat.le_refl _, Nat.le_refl _, ht2⟩
    rw [lg_entry_eq]
    have X0 : am_Dy s y D (va_A (am_ws ad b cA h.1) s.heap.size) cA b h ad ad h s.heap [] 0 0 (am_ent y as) _ [] :=
      ⟨hP, hD0.self, va_S.rf, am_hl_ent ad b y as hcs, hwh, am_wl_ent has, (fun v hv => nomatch hv), ⟨Nat.zero_add _, Nat.zero_add _, rfl⟩, Nat.le_refl _, fun _ _ => rfl⟩
    exact hS _ _ _ _ _ _ _ hex p e _ s mid _ below meth c D _ cA b h ad ad s.heap [] 0 0 _ _ C0 X0 (by show 0 + _ ≤ (o.2.2.1.1 - h.2.1.1) + _; omega) (by show 0 + _ ≤ (o.2.2.1.2 - h.2.1.2) + _; omega)
      (fun pc' ls' st' h1 ad' H' locs' cells' slots' lsc' en' hf' ho' X' => am_end_go hfl C0 ht1 hf' ho' X' (by omega) (by omega) (Nat.le_refl _) (Nat.le_refl _))
  by_cases hh : am_hh y = []
  · refine vx_ofW (cc := am_by y) (maxL := am_mx y) (ret := am_rt y) (ws' := am_G) hpl (by unfold am_cw; rw [if_pos hh]) ?_
    intro p e s mid args below meth c s₁ B hml ht hv
    exact body p e s mid args below meth c s₁ B hml (fun _ => ht) (fun q => absurd hh q) hv
  · refine vx_ofWH (cc := am_by y) (maxL := am_mx y) (ret := am_rt y) (hh := am_hh y) (ws' := am_G) hpl (by unfold am_cw; rw [if_neg hh]) ?_
    intro p e s mid args below meth c s₁ B hml hv
    have hts := atoms_spec (ws := am_cw y :: am_G) B.pre
    have hcw : (Cond.codeWith (am_nm y) (am_by y) (am_mx y) (am_rt y) (am_hh y)).before args s = true := by
      have := hts _ List.mem_cons_self
      unfold am_cw at this
      rwa [if_neg hh] at this
    exact body p e s mid args below meth c s₁ B hml (fun q => absurd q hh) (fun _ => vx_table (x := am_nm y) B hcw) hv
