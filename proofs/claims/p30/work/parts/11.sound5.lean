/-! ===== handlers, calls, the induction ===== -/
theorem am_catch_go {p : Program} {l : Launch} {e : Env} {R : Room} {s : State} {mid : MethodId} {args : Array Value} {below : List Frame} {meth : Method} {c : Code} {m d pc : Nat} {D : va_G} {A0 : Nat → Prop} {cA : Nat → ClassId} {b : Nat} {h0 : am_H} {E : String} {t : Nat × Nat} {en : am_I} (C0 : am_Ct p R s mid args meth c m d D A0 cA b h0)
    {H : Heap} {locs : List Loc} {cells slots : Nat} {lsc : Array Slot} {rest : List Value} {q : Addr} {ce : Cell} {Q : State → Prop} {L : List (Nat × Value)} (hf : am_tab m pc = some en) (h8 : en.2.2.2.2.2 = .int 8) (ht : am_han m E = some t) (hcell : H[q]? = some ce) (hv : ce.vm = .none) (hcl : s.vm.findClass E = some ce.cls) (hl : lv_has lsc (am_mx m) L)
    (k : ∀ lsc' : Array Slot, lv_has lsc' (am_mx m) ((t.2, Value.ref q) :: L.filter (fun z => !(z.1 == t.2) && !(z.1 + 1 == t.2 && z.2.category == 2))) → W p l e R s mid args below meth c H locs cells slots Q (F0 mid t.1 lsc' [])) :
    vx_W p l e R s mid args below meth c H locs cells slots Q (F0 mid pc lsc rest) q := by
  unfold am_han at ht
  cases hr : am_hd.find? (fun q => q.1 == m && q.2.1 == E) with
  | none => rw [hr] at ht; cases ht
  | some r =>
    rw [hr] at ht
    obtain rfl := Option.some.inj ht
    have h1 := List.find?_some hr
    have h2 := List.mem_of_find?_eq_some hr
    simp only [Bool.and_eq_true, beq_iff_eq] at h1
    obtain ⟨rfl, rfl⟩ := h1
    clear hr ht
    simp [am_hd] at h2
theorem am_goodC {y : Nat} (hmk : am_mk y = true) : am_cw y ∈ am_G ∧ ∀ w ∈ am_cw y :: am_G, w ∈ am_G ∧ ((w.onTables && w.keeps) = true ∨ ∃ ty, w = .arrayClass ty) := by
  unfold am_mk at hmk
  simp only [Bool.and_eq_true, decide_eq_true_eq] at hmk
  have hg : goodWord (am_cw y) = true := by
    unfold am_cw
    split <;> rfl
  have h1 : am_cw y ∈ am_G := am_good_mem hmk.1.1.1.1 hg
  refine ⟨h1, fun w hw => ?_⟩
  rcases List.mem_cons.mp hw with rfl | hw
  · exact ⟨h1, good_of_word hg⟩
  · exact ⟨hw, good_of_word (am_G_good w hw)⟩
theorem am_cal_some {en : am_I} {st : List Value} {h : am_H} {q : Nat × List Value × List Value} (hq : am_cal en st h = some q) : am_isc en = true ∧ en.2.2.2.1 ≤ st.length ∧ am_cs q.2.2 ≤ 8 ∧ am_cs q.2.1 ≤ am_mx en.2.2.1 ∧ (en.2.2.2.2.2 = .int 0 ∨ en.2.2.2.2.2 = .int 8 → am_rcv h (am_cn en.2.2.1) q.2.1 = true) ∧ (en.2.2.2.2.2 = .int 4 ∨ en.2.2.2.2.2 = .int 5 → am_rh q.2.1 = true) ∧ q.1 = en.2.2.1 ∧ st = q.2.1.reverse ++ q.2.2 ∧ q.2.1.length = en.2.2.2.1 := by
  unfold am_cal at hq
  split at hq
  next h1 =>
    split at hq
    next h2 =>
      cases hq
      obtain ⟨g1, g2, g3, g4, g5⟩ := h2
      refine ⟨h1, g1, g2, g3, g4, g5, rfl, ?_, ?_⟩
      · show st = (st.take _).reverse.reverse ++ st.drop _
        rw [List.reverse_reverse, List.take_append_drop]
      · show ((st.take _).reverse).length = _
        rw [List.length_reverse, List.length_take]
        omega
    next => cases hq
  next => cases hq
section AMC
variable {p : Program} {l : Launch} {e : Env} {R : Room} {s : State} {mid : MethodId} {args : Array Value} {below : List Frame} {meth : Method} {c : Code}
theorem am_vrun {m d pc y mc ms : Nat} {D : va_G} {A0 A1 : Nat → Prop} {cA : Nat → ClassId} {b : Nat} {h0 : am_H} {ad0 ad : Nat → Nat} {en : am_I} {ls st as rest : List Value} {h : am_H} {H : Heap} {locs : List Loc} {cells slots : Nat} {lsc : Array Slot} {Qc : Array Value → State → Outcome → State → Prop} {XC : String → State → State → Prop}
    (C0 : am_Ct p R s mid args meth c m (d + 1) D A0 cA b h0) (hf : am_tab m pc = some en) (hq : am_cal en st h = some (y, as, rest)) (X0 : am_Dy s m D A0 cA b h0 ad0 ad h H locs cells slots ls lsc st) (hmk : am_mk y = true)
    (hA1 : ∀ q, A1 q → A0 q) (hM : vx_Met l (am_nm y) (am_cw y :: am_G) (am_rm d mc ms) (va_Pc (as.map (am_cv ad b)) (am_B D cA b ad h H.size)) Qc XC mc ms A1) (hA1e : A1 = va_A (am_ws ad b cA h.1) H.size) (hrc : cells + mc ≤ R.cells) (hrs : slots + ms ≤ R.slots) :
    vx_Run p l e R s mid args below meth c H locs cells slots mc ms (F0 mid pc lsc (st.map (am_cv ad b))) (rest.map (am_cv ad b)) (Qc (as.map (am_cv ad b)).toArray) XC A1 := by
  obtain ⟨hx, hb, hr, hml, hown, hG, hlocks, hini, hext, hA, hK, hscr, hRf, hRl, htab⟩ := C0
  obtain ⟨hP, hD, hS, hl, hwh, hwl, hws, hcnt, hle, had⟩ := X0
  obtain ⟨hisc, -, hcs, -, hrcv, hrh, hy, hst, hlen2⟩ := am_cal_some hq
  dsimp only at hcs hrcv hrh hy hst hlen2
  obtain ⟨hcw, hgood⟩ := am_goodC hmk
  have hmk2 := hmk
  unfold am_mk at hmk2
  simp only [Bool.and_eq_true, decide_eq_true_eq] at hmk2
  obtain ⟨⟨⟨⟨hw1, hw2⟩, hpl⟩, hw3⟩, hw4⟩ := hmk2
  have hinit : (Cond.initialized (am_nm y).cls).before args s = true := hG _ (am_good_mem hw2 rfl)
  have hR2 : (am_rm d mc ms).frames + 1 ≤ R.frames ∧ 8 + (am_mx y + 11) + (am_rm d mc ms).locals ≤ R.locals := ⟨by show 12 + d + 1 ≤ _; omega, by show 8 + _ + (400 + 40 * d) ≤ _; omega⟩
  have hpre : ∀ U : State, U.heap = H → s.WarmedH U.vm → va_Pc (as.map (am_cv ad b)) (am_B D cA b ad h H.size) (as.map (am_cv ad b)).toArray U := by
    intro U hU hW
    refine ⟨rfl, by rw [hU], by rw [hU]; exact hP, va_K.moved hW.alike hK, hD.weaken (fun _ _ _ _ => trivial), ?_, ?_, Nat.lt_of_lt_of_le hscr.2.1 hS.1, fun hq => hscr.2.2 (hA1 b (by rw [hA1e]; exact hq))⟩
    · rw [hU]
      exact hext.to hW hS.2.1 (fun q hq => hA1 q (by rw [hA1e]; exact hq))
    · rw [hU, hcnt.2.2]
      exact (hscr.1.kept (hS.2.1 b hscr.2.1 hscr.2.2)).moved hW.alike
  have hstm : st.map (am_cv ad b) = (as.map (am_cv ad b)).reverse ++ rest.map (am_cv ad b) := by rw [hst, List.map_append, List.map_reverse]
  have hlz : lsc.size = c.maxLocals := hl.1.trans hml.symm
  have hroom : 2 * (F0 mid pc lsc (st.map (am_cv ad b))).monitorRoom + ((rest.map (am_cv ad b)).map fun v => v.category).sum ≤ 8 := lv_room (by rw [am_cs_map]; exact hcs)
  obtain ⟨ins, len, ea, eb, ew, ev⟩ := en
  dsimp only at hrcv hrh hy hlen2
  subst hy
  have hfix : CallFix p mid c (am_by m) (am_mx m) s args am_G (am_cn m) := ⟨hx, hb, hml, hown, hG⟩
  have hcode : am_hh y = [] → am_cw y :: am_G = Cond.code (am_nm y) (am_by y) (am_mx y) (am_rt y) :: am_G := fun q => by unfold am_cw; rw [if_pos q]
  have hne : ins ≠ .athrow := fun q => by subst q; cases hisc
  obtain ⟨hd, hlen, hw⟩ := am_dec hf hne
  cases ins
  all_goals try (exact absurd hisc Bool.false_ne_true)
  case invokevirtual i =>
    obtain rfl : len = 3 := am_l3 hlen
    simp only [am_lkw, Bool.and_eq_true, decide_eq_true_eq] at hw
    obtain ⟨⟨⟨⟨⟨⟨q1, -⟩, q3⟩, q4⟩, q5⟩, q6⟩, q7⟩ := hw
    unfold am_mi at q3
    unfold am_ml at q4
    simp only [decide_eq_true_eq] at q3 q4
    have hr0 := hrcv q7
    cases as with
    | nil => cases hr0
    | cons v as' =>
      cases v with
      | ref k =>
        dsimp only [am_rcv] at hr0
        split at hr0
        next ci fs hk =>
          simp only [Bool.and_eq_true, decide_eq_true_eq] at hr0
          have hrec := va_recv hK hP (am_cl_at hr0.2) (am_ws_at hk)
          rw [hr0.1] at hrec
          have hcb := callB_of (R := R) (am_np y) hG hgood (hcode q5) (rm := am_rm d mc ms) rfl rfl hinit (hG _ (am_good_mem q1 rfl)) hw3 hR2
          refine vx_runV (As := as'.map (am_cv ad b)) (b := ad k) (C := am_cn y) hfix hM ⟨hcb, hG _ (am_good_mem q3 rfl), hG _ (am_good_mem q4 rfl)⟩ ⟨am_blind, hrec, hpre⟩ rfl ?_ (hlz.trans hml) ?_ hroom hd ⟨hrc, hrs⟩
          · rw [List.length_map]
            simp only [List.length_cons] at hlen2
            omega
          · show st.map (am_cv ad b) = _
            rw [hstm, List.map_cons, List.reverse_cons, List.append_assoc]
            rfl
        next => cases hr0
      | _ => cases hr0
  case invokestatic i =>
    obtain rfl : len = 3 := am_l3 hlen
    have hv : ev = .int 2 ∨ ev = .int 3 ∨ ev = .int 9 := by simpa [am_isc, or_assoc] using hisc
    have n7 : ev ≠ .int 7 := by rcases hv with rfl | rfl | rfl <;> decide
    have n10 : ev ≠ .int 10 := by rcases hv with rfl | rfl | rfl <;> decide
    have n11 : ev ≠ .int 11 := by rcases hv with rfl | rfl | rfl <;> decide
    have n12 : ev ≠ .int 12 := by rcases hv with rfl | rfl | rfl <;> decide
    simp only [am_lkw, if_neg n7, if_neg n10, if_neg n11, if_neg n12, Bool.and_eq_true, decide_eq_true_eq] at hw
    obtain ⟨⟨⟨-, q3⟩, q6⟩, q7⟩ := hw
    unfold am_ms at q3
    simp only [decide_eq_true_eq] at q3
    have hnA : (as.map (am_cv ad b)).length = am_np y := by rw [List.length_map]; omega
    rcases hv with rfl | rfl | rfl
    · rw [if_neg (by decide), Bool.and_eq_true, decide_eq_true_eq, if_neg (by decide), Bool.and_eq_true, decide_eq_true_eq, decide_eq_true_eq] at q7
      obtain ⟨q1, -, q5⟩ := q7
      have hcb := callB_of (R := R) (am_np y) hG hgood (hcode q5) (rm := am_rm d mc ms) rfl rfl hinit (hG _ (am_good_mem q1 rfl)) hw3 hR2
      exact vx_runS (As := as.map (am_cv ad b)) hfix hM ⟨hcb, hG _ (am_good_mem q3 rfl)⟩ ⟨am_blind, hpre⟩ rfl hnA (hlz.trans hml) hstm hroom hd ⟨hrc, hrs⟩
    · rw [if_pos rfl, Bool.and_eq_true, decide_eq_true_eq, decide_eq_true_eq] at q7
      obtain ⟨q1, q5⟩ := q7
      have hcn := va_cnB (R := R) (am_np y) hG hgood (hcode q5) (rm := am_rm d mc ms) rfl rfl (hext.1 _ (am_nw_mem q1 rfl)) hinit hw3 hR2
      exact vx_runSN (As := as.map (am_cv ad b)) hfix hM ⟨hcn, hG _ (am_good_mem q3 rfl), trivial⟩ ⟨am_blind, hpre⟩ rfl hnA (hlz.trans hml) hstm hroom hd ⟨hrc, hrs⟩
    · rw [if_neg (by decide), Bool.and_eq_true, decide_eq_true_eq, if_pos rfl, decide_eq_true_eq] at q7
      obtain ⟨q1, q5⟩ := q7
      have hcode9 : am_cw y :: am_G = Cond.codeWith (am_nm y) (am_by y) (am_mx y) (am_rt y) (am_hh y) :: am_G := by unfold am_cw; rw [if_neg q5]
      have hgw : GoodIn am_G (va_wsS (am_cn m) i (am_nm y) (am_cw y :: am_G)) := by
        intro w hw
        rcases List.mem_append.mp hw with hw | hw
        · have key : ∀ w0, am_wat ew = some w0 → w = w0 → goodWord w0 = true → w ∈ am_G ∧ ((w.onTables && w.keeps) = true ∨ ∃ ty, w = .arrayClass ty) := fun w0 g1 g2 g3 => by
            subst g2; exact ⟨am_good_mem g1 g3, good_of_word g3⟩
          simp only [List.mem_cons, List.not_mem_nil, or_false] at hw
          rcases hw with rfl | rfl | rfl
          · exact ⟨am_good_mem q1 rfl, good_of_word rfl⟩
          · exact ⟨am_good_mem q3 rfl, good_of_word rfl⟩
          · exact ⟨am_good_mem hw2 rfl, good_of_word rfl⟩
        · exact hgood w hw
      have hcs9 := vx_cwSW (R := R) (am_np y) hG hgw hcode9 (rm := am_rm d mc ms) rfl rfl hw3 hR2
      exact vx_runSX (As := as.map (am_cv ad b)) hfix hM hcs9 ⟨am_blind, hpre⟩ rfl hnA (hlz.trans hml) hstm hroom hd ⟨hrc, hrs⟩
  case invokespecial i =>
    obtain rfl : len = 3 := am_l3 hlen
    have n6 : ev ≠ .int 6 := by simpa [am_isc] using hisc
    simp only [am_lkw, if_neg n6, Bool.and_eq_true, decide_eq_true_eq] at hw
    obtain ⟨⟨⟨⟨⟨⟨-, q3⟩, q4⟩, q5⟩, q6⟩, q8⟩, q7⟩ := hw
    unfold am_mi at q3
    simp only [decide_eq_true_eq] at q3
    cases as with
    | nil => simp only [List.length_nil] at hlen2; omega
    | cons v as' =>
      have hst2 : st.map (am_cv ad b) = (as'.map (am_cv ad b)).reverse ++ am_cv ad b v :: rest.map (am_cv ad b) := by
        rw [hstm, List.map_cons, List.reverse_cons, List.append_assoc]
        rfl
      have hnA : (as'.map (am_cv ad b)).length = am_np y := by
        rw [List.length_map]
        simp only [List.length_cons] at hlen2
        omega
      have hcode4 : am_cw y :: am_G = Cond.code (am_nm y) (am_by y) (am_mx y) none :: am_G := by rw [hcode q5, q8]
      have hv45 : ev = .int 4 ∨ ev = .int 5 := by
        by_cases q : ev = .int 5
        · exact Or.inr q
        · rw [if_neg q] at q7
          simp only [Bool.and_eq_true, decide_eq_true_eq] at q7
          exact Or.inl q7.2
      have hrh2 := hrh hv45
      cases v with
      | ref k =>
        split at q7
        next =>
          simp only [decide_eq_true_eq] at q7
          have hcn := va_cnB (R := R) (am_np y) hG hgood hcode4 (rm := am_rm d mc ms) rfl rfl (hext.1 _ (am_nw_mem q7 rfl)) hinit hw3 hR2
          exact vx_runIN (As := as'.map (am_cv ad b)) (b := ad k) hfix hM ⟨hcn, q4, hG _ (am_good_mem q3 rfl)⟩ ⟨am_blind, hpre⟩ rfl hnA (hlz.trans hml) hst2 hroom hd ⟨hrc, hrs⟩
        next =>
          simp only [Bool.and_eq_true, decide_eq_true_eq] at q7
          have hcb := callB_of (R := R) (am_np y) hG hgood hcode4 (rm := am_rm d mc ms) rfl rfl hinit (hG _ (am_good_mem q7.1 rfl)) hw3 hR2
          exact vx_runI (As := as'.map (am_cv ad b)) (b := ad k) hfix hM ⟨hcb, q4, hG _ (am_good_mem q3 rfl)⟩ ⟨am_blind, hpre⟩ rfl hnA (hlz.trans hml) hst2 hroom hd ⟨hrc, hrs⟩
      | _ => cases hrh2
end AMC
theorem am_isc_mk {m pc : Nat} {en : am_I} (hf : am_tab m pc = some en) (hisc : am_isc en = true) : am_mk en.2.2.1 = true := by
  obtain ⟨ins, len, ea, eb, ew, ev⟩ := en
  have hne : ins ≠ .athrow := fun q => by subst q; cases hisc
  obtain ⟨hd, hlen, hw⟩ := am_dec hf hne
  cases ins
  all_goals try (exact absurd hisc Bool.false_ne_true)
  case invokevirtual i =>
    simp only [am_lkw, Bool.and_eq_true, decide_eq_true_eq] at hw
    exact hw.1.1.1.1.1.2
  case invokestatic i =>
    have hv : ev = .int 2 ∨ ev = .int 3 ∨ ev = .int 9 := by simpa [am_isc, or_assoc] using hisc
    have n7 : ev ≠ .int 7 := by rcases hv with rfl | rfl | rfl <;> decide
    have n10 : ev ≠ .int 10 := by rcases hv with rfl | rfl | rfl <;> decide
    have n11 : ev ≠ .int 11 := by rcases hv with rfl | rfl | rfl <;> decide
    have n12 : ev ≠ .int 12 := by rcases hv with rfl | rfl | rfl <;> decide
    simp only [am_lkw, if_neg n7, if_neg n10, if_neg n11, if_neg n12, Bool.and_eq_true, decide_eq_true_eq] at hw
    exact hw.1.1.1
  case invokespecial i =>
    have n6 : ev ≠ .int 6 := by simpa [am_isc] using hisc
    simp only [am_lkw, if_neg n6, Bool.and_eq_true, decide_eq_true_eq] at hw
    exact hw.1.1.1.1.1.1
theorem am_step {l : Launch} {n : Nat} (hfl : l.stackTraces = false) (ih : am_SF l n) : am_SF l (n + 1) := by
  intro d m pc ls st h o hex p e R s mid args below meth c D A0 cA b h0 ad0 ad H locs cells slots lsc Q C0 X0 hrc hrs K
  have X9 := X0
  obtain ⟨hP, hD, hS, hl, hwh, hwl, hws, hcnt, hle, had⟩ := X9
  have hA : ∀ q, s.heap.size ≤ q → A0 q := C0.2.2.2.2.2.2.2.2.2.1
  rw [am_ex] at hex
  split at hex
  next => cases hex
  next en hf =>
    split at hex
    next o2 ho2 => cases hex; exact K _ _ _ _ _ _ _ _ _ _ _ hf ho2 X0
    next ho2 =>
      split at hex
      next q hq =>
        cases d with
        | zero => cases hex
        | succ d0 =>
          dsimp only at hex
          obtain ⟨y, as, rest⟩ := q
          obtain ⟨hisc, -, hcs, hmx, hrcv, hrh, hy, hst, hlen2⟩ := am_cal_some hq
          dsimp only at hcs hmx hy hst hex
          have hmk : am_mk y = true := by rw [hy]; exact am_isc_mk hf hisc
          rw [← hy] at hmx
          have has : ∀ v ∈ as, am_wv h.1.length v := fun v hv => hws v (by rw [hst]; exact List.mem_append_left _ (List.mem_reverse.mpr hv))
          have hrest : ∀ v ∈ rest, am_wv h.1.length v := fun v hv => hws v (by rw [hst]; exact List.mem_append_right _ hv)
          have hA1 : ∀ q, va_A (am_ws ad b cA h.1) H.size q → A0 q := by
            intro q hq
            rcases hq with ⟨k, z, hk⟩ | hq
            · exact hD.2 k (q, z) hk
            · exact hA q (Nat.le_trans hS.1 hq)
          cases hc : am_ex n d0 y 0 (am_ent y as) [] h with
          | none => rw [hc] at hex; cases hex
          | some o1 =>
            rw [hc] at hex
            have hM := am_met hfl ih hc hmk has hmx hwh D cA b ad H.size
            obtain ⟨c1, c2, c3, c4⟩ := am_cnt _ _ _ _ _ _ _ _ hc
            obtain ⟨r1, h'⟩ := o1
            dsimp only at c1 c2 c3 c4 hM hex
            have c5 : h'.2.1.1 ≤ o.2.2.1.1 ∧ h'.2.1.2 ≤ o.2.2.1.2 := by
              cases r1 with
              | inl rv => exact ⟨(am_cnt _ _ _ _ _ _ _ _ hex).1, (am_cnt _ _ _ _ _ _ _ _ hex).2.1⟩
              | inr E =>
                dsimp only at hex
                split at hex
                next =>
                  split at hex
                  next => exact ⟨(am_cnt _ _ _ _ _ _ _ _ hex).1, (am_cnt _ _ _ _ _ _ _ _ hex).2.1⟩
                  next => cases hex
                next => cases hex
            have hr := am_vrun (e := e) (below := below) (l := l) C0 hf hq X0 hmk hA1 hM rfl (by omega) (by omega)
            have dy : ∀ (ad' : Nat → Nat) (t : State) (H1 : Heap) (locs1 : List Loc) (ls' st' : List Value) (lsc' : Array Slot), t.heap = H1 → am_T D cA b ad ad' h h' (va_A (am_ws ad b cA h.1) H.size) t → va_S A0 s.heap H1 locs1 → am_hl ad' b lsc' (am_mx m) ls' → (∀ v ∈ ls', am_wv h'.1.length v) → (∀ v ∈ st', am_wv h'.1.length v) →
                am_Dy s m D A0 cA b h0 ad0 ad' h' H1 locs1 (cells + (h'.2.1.1 - h.2.1.1)) (slots + (h'.2.1.2 - h.2.1.2)) ls' lsc' st' := by
              intro ad' t H1 locs1 ls' st' lsc' ht hT hS1 g1 g2 g3
              obtain ⟨tP, tD, tw, tad⟩ := hT
              exact ⟨by rw [← ht]; exact tP, tD.weaken (fun k q _ z => hA1 q.1 z), hS1, g1, tw, g2, g3, ⟨by omega, by omega, c4.trans hcnt.2.2⟩, Nat.le_trans hle c3, fun k hk => (tad k (by omega)).trans (had k hk)⟩
            refine am_run hr hS hA1 (fun st v t hq => ?_) (fun E st t hq => ?_) (fun v st₀ t H1 locs1 ht hal hq hS1 => ?_) (fun qa st₀ t H1 locs1 E ce ht hal hq hS1 hk1 hk2 hk3 => ?_)
            · obtain ⟨_, _, _, _, _, _, g⟩ := hq; exact g
            · obtain ⟨_, _, _, g⟩ := hq; exact g
            · obtain ⟨rv, ad', e1, e2, hT, hwv, -⟩ := hq
              dsimp only at e1 e2 hwv
              subst e1
              cases e2
              have hst' : ∀ v ∈ rv.toList ++ rest, am_wv h'.1.length v := by
                intro v hv
                rcases List.mem_append.mp hv with hv | hv
                · exact hwv v (by simpa using hv)
                · exact am_wv_mono c3 (hrest v hv)
              have es : (Option.map (am_cv ad' b) rv).toList ++ rest.map (am_cv ad b) = (rv.toList ++ rest).map (am_cv ad' b) := by
                rw [List.map_append, am_cvl_eq hT.2.2.2 hrest]
                cases rv <;> rfl
              rw [es]
              exact ih _ _ _ _ _ _ _ hex p e R s mid args below meth c D A0 cA b h0 ad0 ad' H1 locs1 _ _ lsc Q C0 (dy ad' t H1 locs1 ls _ lsc ht hT hS1 (am_hl_eq hT.2.2.2 hwl hl) (fun v hv => am_wv_mono c3 (hwl v hv)) hst') (by omega) (by omega) K
            · obtain ⟨ad', e1, hT, -⟩ := hq
              dsimp only at e1
              subst e1
              dsimp only at hex
              split at hex
              next h8 =>
                split at hex
                next t9 ht9 =>
                  have hl' := am_hl_eq hT.2.2.2 hwl hl
                  refine am_catch_go C0 hf h8 ht9 hk1 hk2 hk3 (am_hl_has hl') (fun lsc' hl9 => ?_)
                  exact ih _ _ _ _ _ _ _ hex p e R s mid args below meth c D A0 cA b h0 ad0 ad' H1 locs1 _ _ lsc' Q C0 (dy ad' t H1 locs1 _ [] lsc' ht hT hS1 (am_hl_drop hl' hl9) (am_wl_s1 (fun v hv => am_wv_mono c3 (hwl v hv)) trivial) (fun v hv => nomatch hv)) (by omega) (by omega) K
                next => cases hex
              next => cases hex
      next hq =>
        split at hex
        next t ht =>
          obtain ⟨c1, c2, c3, c4⟩ := am_cnt _ _ _ _ _ _ _ _ hex
          refine am_pst_ok C0 hf ht X0 (by omega) (by omega) (fun ad' H' locs' cells' slots' lsc' X' => ?_)
          have hcnt' := X'.2.2.2.2.2.2.2.1
          exact ih _ _ _ _ _ _ _ hex p e R s mid args below meth c D A0 cA b h0 ad0 ad' H' locs' cells' slots' lsc' Q C0 X' (by omega) (by omega) K
        next => cases hex
theorem am_sound {l : Launch} (hfl : l.stackTraces = false) : ∀ n, am_SF l n
  | 0 => by intro d m pc ls st h o hex; simp [am_ex] at hex
  | n + 1 => am_step hfl (am_sound hfl n)

