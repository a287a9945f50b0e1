/-! THE CLAIM OUT OF ONE WALK OF THE LAW'S BODY. Your part is whole_start (and what it stands on); all else here is the same for every law, but numbers. -/
def R_law : String := "FencedRowsLaw"
def lw_P (b : Addr) (xs : List Int32) (args : Array Value) (s : State) : Prop := args = #[.ref b] ∧ s.IntsAt b xs ∧ xs.length ≤ 260 ∧ (Jvm.Cond.and given_1 narrow_1).before args s = true
def lw_Q (_ : Array Value) (s : State) (o : Outcome) (t : State) : Prop := o = .returned (some (.int 1)) ∧ Framed s o t [] 600130 7301080
def lw_Z (below : List Frame) (a : Array Value) (s : State) : State → Prop := fun t => ∃ o, t.status = .running ∧ Ended t below o ∧ lw_Q a s o t
/-- the law's own end, with 1 on the stack, nothing written that was there before, its room as the claim has it -/
theorem lw_ret {p : Program} {l : Launch} {e : Env} {s : State} {m : MethodId} {below : List Frame} {meth : Method} {c : Code} {b : Nat} (hx : p.tables.exec = Jvm.exec) (hb : c.code = code) (hr : meth.sig.returnType = ret) (hlocks : meth.locks = false) {pc : Nat} {H : Heap} {ls : Array Slot} (hdg : decode code pc = .ok (.ireturn, 1)) : W p l e room_1 s m #[Value.ref b] below meth c H [] 600130 7301080 (lw_Z below #[Value.ref b] s) (F0 m pc ls [.int 1]) := by
  intro T hT X
  obtain ⟨fs, hret, hrun, hended, hW, hframe⟩ := X.leave (v := some (.int 1)) (hlocks := hlocks) (fun h => by rw [hr] at h; cases h)
  have hmeth' : T.vm.method? m = some meth := X.method'
  refine ⟨T.setFrames fs, ?_, .returned (some (.int 1)), hrun, hended, rfl, ⟨_, rfl⟩, hW, hframe⟩
  jvm_step X.here [X.here.top, hx, hb, hdg, hmeth', hr, ret, narrow_b1]
  (try refine ⟨rfl, ?_⟩); (try refine ⟨rfl, ?_⟩)
  first | (intro acts; rw [hret _ acts rfl rfl rfl]) | rw [hret _ _ rfl rfl rfl]
  exact Steps.refl _
/-- what holds at the law's entry: the machine, the code, the tables' words (any of lw_tbl by 'hts w (by decide +kernel)'), the script of L ints xs at the cell b, what the Statement gives of the start (any of its parts by flat_of_before) -/
def lw_At (p : Program) (s : State) (m : MethodId) (meth : Method) (c : Code) (b L : Nat) (xs : Nat → Int32) : Prop :=
  p.tables.exec = Jvm.exec ∧ c.code = code ∧ meth.sig.returnType = ret ∧ c.maxLocals = 13 ∧ s.vm.findClass R_law = some m.cls ∧ (∀ w ∈ lw_tbl, w.before #[Value.ref b] s = true) ∧ va_X b L xs s s.heap ∧ b < s.heap.size ∧ meth.locks = false ∧ (Jvm.Cond.and given_1 narrow_1).before #[Value.ref b] s = true
theorem am_instw : ∀ a, a < vwCl.length → am_wat ((am_kw[a]?).getD (0, 0)).1 = some (.instantiable (am_q a).1 (am_q a).2.2) := by decide +kernel
theorem am_arrw : (Cond.arrayClass .int ∈ lw_tbl ∧ Cond.arrayClass .char ∈ lw_tbl) ∧ (Cond.arrayClass .boolean ∈ lw_tbl ∧ Cond.arrayClass .long ∈ lw_tbl) ∧ Cond.arrayOver (.object "FencedRows$Meadow") ∈ lw_tbl := by decide +kernel
theorem am_strw : (am_thr.all fun q => decide (Cond.stringRef "FencedRows" q.2.2.1 q.2.2.2.2 ∈ lw_tbl) && decide (Cond.exactly (.string "FencedRows" q.2.2.1) "java/lang/String" ∈ flatC (Jvm.Cond.and given_1 narrow_1))) = true := by decide +kernel
theorem am_stw : Cond.isRef (.static Bundle.tN "UNASSIGNED_STACK" Bundle.steD) ∈ flatC (Jvm.Cond.and given_1 narrow_1) ∧ Cond.isRef (.static Bundle.tN "SUPPRESSED_SENTINEL" Bundle.listD) ∈ flatC (Jvm.Cond.and given_1 narrow_1) ∧ Cond.laysStatic Bundle.tN "UNASSIGNED_STACK" Bundle.steD ∈ lw_tbl ∧ Cond.laysStatic Bundle.tN "SUPPRESSED_SENTINEL" Bundle.listD ∈ lw_tbl ∧ Cond.initialized Bundle.tN ∈ lw_tbl := by decide +kernel
theorem am_nwot : (am_NW.all fun w => w.onTables) = true := by decide +kernel
theorem am_law0 : am_by 0 = code ∧ am_mx 0 = 13 ∧ am_rt 0 = ret ∧ am_cn 0 = R_law ∧ am_hh 0 = [] := ⟨rfl, rfl, rfl, rfl, rfl⟩
/-- the walk of the law out of the abstract machine's run of it -/
theorem am_start (hlaw : ∀ (L : Nat) (xs : Nat → Int32), L ≤ 260 → am_X 100 0 0 (am_ent 0 [.retAddr 0]) [] ([], (0, 0), (L, xs)) (fun r h' => r = .inl (some (.int 1)) ∧ h'.2.1.1 ≤ 600130 ∧ h'.2.1.2 ≤ 7301080))
    {p : Program} {e : Env} {s : State} {m : MethodId} {below : List Frame} {meth : Method} {c : Code} (l : Launch) (hflags : l.flags = flags0) {b L : Nat} {xs : Nat → Int32} (hL : L ≤ 260) (C0 : lw_At p s m meth c b L xs) : W p l e room_1 s m #[Value.ref b] below meth c s.heap [] 0 0 (lw_Z below #[Value.ref b] s) (entryFrame m ([Value.ref b] : List Value).toArray 13) := by
  obtain ⟨hx, hb, hr, hml, hown, hts, hX, hbl, hlocks, hgv⟩ := id C0
  obtain ⟨z1, z2, z3, z4, z5⟩ := am_law0
  have hfl : l.stackTraces = false := by unfold Launch.stackTraces; rw [hflags]; decide
  have hgn := flat_of_before _ hgv
  have hG : ∀ w ∈ am_G, w.before #[Value.ref b] s = true := fun w hw => hts w (List.mem_filter.mp hw).1
  have hk : ∀ a : Nat, ∃ q : ClassId × (Nat → Nat), a < vwCl.length → u_Kn s (am_q a).1 (am_q a).2.1 (am_q a).2.2 q.1 q.2 := by
    intro a
    by_cases ha : a < vwCl.length
    · obtain ⟨c1, i1, h1⟩ := u_known hG (am_uws a ha) (hts _ (am_wat_mem (am_instw a ha)))
      exact ⟨(c1, i1), fun _ => h1⟩
    · exact ⟨(0, fun _ => 0), fun h => absurd h ha⟩
  have hp : ∀ ty : FieldType, (Cond.arrayClass ty).before #[Value.ref b] s = true → ∃ cN, ArrOfT s cN ty ∧ s.vm.findClass ("[" ++ ty.toString) = some cN := by
    intro ty h
    obtain ⟨c1, k1, comp, g1, g2, g3⟩ := Cond.arrayClass_spec h
    exact ⟨c1, fun n z => ⟨(fun k q => by cases q), k1, g2, comp, g3⟩, g1⟩
  obtain ⟨cI, gI1, gI2⟩ := hp .int (hts _ am_arrw.1.1)
  obtain ⟨cC, gC1, gC2⟩ := hp .char (hts _ am_arrw.1.2)
  obtain ⟨cZ, gZ1, gZ2⟩ := hp .boolean (hts _ am_arrw.2.1.1)
  obtain ⟨cJ, gJ1, gJ2⟩ := hp .long (hts _ am_arrw.2.1.2)
  obtain ⟨comp, cM, kM, f1, f2, f3, f4, f5⟩ := Cond.arrayOver_spec (hts _ am_arrw.2.2)
  let cA : Nat → ClassId := fun t => match t with
    | 0 => cI
    | 1 => cC
    | 2 => cZ
    | 3 => cJ
    | _ => cM
  let D : va_G := (fun a => (Classical.choose (hk a)).1, fun a => (Classical.choose (hk a)).2)
  let h0 : am_H := ([], (0, 0), (L, xs))
  have hK : va_K D vwCl (am_tys cA) s := by
    refine ⟨fun a q hq => ?_, fun k q hq => ?_⟩
    · have ha := (List.getElem?_eq_some_iff.mp hq).1
      have e1 := am_cl_at ha
      rw [hq] at e1
      cases e1
      exact Classical.choose_spec (hk a) ha
    · match k, hq with
      | 0, hq => cases hq; exact ⟨gI1, gI2⟩
      | 1, hq => cases hq; exact ⟨gC1, gC2⟩
      | 2, hq => cases hq; exact ⟨gZ1, gZ2⟩
      | 3, hq => cases hq; exact ⟨gJ1, gJ2⟩
      | 4, hq => cases hq; exact ⟨fun n z => ⟨(fun k h => by cases h), kM, f3, comp, f4⟩, kM, comp, f3, f4, f1, f5⟩
      | k + 5, hq => simp [am_tys] at hq
  have hA9 : ∀ a : Nat, a < s.heap.size → ¬ (s.heap.size ≤ a) := fun a h => Nat.not_le.mpr h
  obtain ⟨s1, s2, s3, s4, s5⟩ := am_stw
  have hE : am_Ext (fun q => s.heap.size ≤ q) s s.heap := by
    refine ⟨fun w hw => va_Nw.of (List.all_eq_true.mp am_nwot w hw) (hts w (List.mem_filter.mp hw).1), fun q hq => ?_, vx_Zqof (hts _ s3) (hts _ s5) (hgn _ s1) hA9, vx_Zqof (hts _ s4) (hts _ s5) (hgn _ s2) hA9, fun x hx y hy n => ?_, va_AO.of (hts _ am_arrw.2.2)⟩
    · have h1 := List.all_eq_true.mp am_strw q hq
      simp only [Bool.and_eq_true, decide_eq_true_eq] at h1
      obtain ⟨a, _, _, _, g1, -⟩ := Cond.exactly_spec (hgn _ h1.2)
      exact ⟨a, vk_R.of (hts _ h1.1) g1⟩
    · exact absurd hx (by simp [am_hd])
  have Ct : am_Ct p room_1 s m #[Value.ref b] meth c 0 100 D (fun q => s.heap.size ≤ q) cA b h0 :=
    ⟨hx, hb.trans z1.symm, hr.trans z3.symm, hml.trans z2.symm, by rw [z4]; exact hown, hG, hlocks, fun q => absurd q (by decide +kernel), hE, fun q h => h, hK, ⟨hX, hbl, Nat.not_le.mpr hbl⟩, Nat.le_of_ble_eq_true rfl, Nat.le_of_ble_eq_true rfl, fun q => absurd z5 q⟩
  obtain ⟨n, o, hex, ho1, ho2, ho3⟩ := hlaw L xs hL
  rw [lg_entry_eq]
  have hl0 := am_hl_ent id b 0 [.retAddr 0] (by rw [z2]; decide)
  have X0 : am_Dy s 0 D (fun q => s.heap.size ≤ q) cA b h0 id id h0 s.heap [] 0 0 (am_ent 0 [.retAddr 0]) _ [] :=
    ⟨(fun k q h => by simp [am_ws, h0] at h), ⟨(fun i j x y h => by simp [am_ws, h0] at h), (fun k q h => by simp [am_ws, h0] at h)⟩, va_S.rf, hl0, (fun q h => by simp [h0] at h), am_wl_ent (fun v hv => by rw [List.mem_singleton.mp hv]; trivial), (fun v hv => nomatch hv), ⟨rfl, rfl, rfl⟩, Nat.le_refl _, fun _ _ => rfl⟩
  refine am_sound hfl n _ _ _ _ _ _ _ hex p e room_1 s m _ below meth c D _ cA b h0 id id s.heap [] 0 0 _ _ Ct X0 (by show 0 + _ ≤ 600130 + 0; omega) (by show 0 + _ ≤ 7301080 + 0; omega) (fun pc' ls' st' h1 ad' H' locs' cells' slots' lsc' en' hf' ho' X' => ?_)
  obtain ⟨o1, o2⟩ := o
  dsimp only at ho1 ho2 ho3
  subst ho1
  have hi : en'.1 ≠ .athrow := by
    intro hi
    obtain ⟨ins, len, ea, eb, ew, ev⟩ := en'
    obtain rfl : ins = .athrow := hi
    dsimp only [am_fin] at ho'
    split at ho' <;> cases ho'
  obtain ⟨hd, hlen, -⟩ := am_dec hf' hi
  rw [z1] at hd
  have hS' := X'.2.2.1
  have hcnt' := X'.2.2.2.2.2.2.2.1
  obtain ⟨ins, len, ea, eb, ew, ev⟩ := en'
  cases ins
  all_goals try (dsimp only [am_fin] at ho'; cases ho'; done)
  case athrow => exact absurd rfl hi
  case ireturn =>
    obtain rfl : len = 1 := am_l1 hlen
    dsimp only [am_fin] at ho'
    split at ho'
    next x =>
      split at ho'
      next ty hty =>
        split at ho'
        next hn =>
          cases ho'
          have c1 : cells' ≤ 600130 := by have := hcnt'.1; have e0 : h0.2.1.1 = 0 := rfl; omega
          have c2 : slots' ≤ 7301080 := by have := hcnt'.2.1; have e0 : h0.2.1.2 = 0 := rfl; omega
          refine va_forget (fun q hq => hS'.2.2 q hq) ?_
          refine W.widen c1 c2 ?_
          exact lw_ret hx hb hr hlocks hd
        next => cases ho'
      next => cases ho'
    next => cases ho'
  case lreturn =>
    dsimp only [am_fin] at ho'
    (repeat' split at ho') <;> cases ho'
  case areturn =>
    dsimp only [am_fin] at ho'
    (repeat' split at ho') <;> cases ho'
  case return_ =>
    dsimp only [am_fin] at ho'
    (repeat' split at ho') <;> cases ho'
