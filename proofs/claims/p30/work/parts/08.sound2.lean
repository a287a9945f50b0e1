/-! ===== the state of the abstract machine stands for the machine's ===== -/
noncomputable def am_G : List Cond := lw_tbl.filter goodWord
def am_isN : Cond → Bool
  | .fieldLinkNest .. => true
  | .methodLinkNest .. => true
  | .declares _ => true
  | .castable _ _ => true
  | _ => false
noncomputable def am_NW : List Cond := lw_tbl.filter am_isN
def am_tys (cA : Nat → ClassId) : List (ClassId × FieldType) := [(cA 0, .int), (cA 1, .char), (cA 2, .boolean), (cA 3, .long), (cA 4, .object "FencedRows$Meadow")]
/-- what the tables and statics say beside the good words -/
def am_Ext (A : Nat → Prop) (U : State) (H : Heap) : Prop := (∀ w ∈ am_NW, va_Nw w U) ∧ (∀ q ∈ am_thr, ∃ sa : Nat, vk_R "FencedRows" q.2.2.1 q.2.2.2.2 sa U) ∧ vx_Zq Bundle.tN "UNASSIGNED_STACK" Bundle.steD A U H ∧ vx_Zq Bundle.tN "SUPPRESSED_SENTINEL" Bundle.listD A U H ∧ (∀ x ∈ am_hd.map (fun q => q.2.1), ∀ y ∈ am_xc, x ≠ y → va_Nc x y U) ∧ va_AO "FencedRows$Meadow" U
theorem am_wat_mem {w : Nat} {c : Cond} (h : am_wat w = some c) : c ∈ lw_tbl := by
  unfold am_wat at h
  unfold lw_tbl tables_1
  split at h <;> first | cases h | skip
  all_goals have h := List.mem_of_getElem? h
  all_goals simp only [List.mem_append]
  · exact Or.inl h
  · exact Or.inr (Or.inl h)
  · exact Or.inr (Or.inr (Or.inl h))
  · exact Or.inr (Or.inr (Or.inr (Or.inl h)))
  · exact Or.inr (Or.inr (Or.inr (Or.inr h)))
theorem am_good_mem {w : Nat} {c : Cond} (h : am_wat w = some c) (hg : goodWord c = true) : c ∈ am_G := List.mem_filter.mpr ⟨am_wat_mem h, hg⟩
theorem am_G_good : ∀ w ∈ am_G, goodWord w = true := fun _ h => (List.mem_filter.mp h).2
theorem am_uws : ∀ a, a < vwCl.length → ∀ w ∈ u_ws (am_q a).1 (am_q a).2.1 (am_q a).2.2, w ∈ am_G := by
  have key : ∀ a, a < 10 → ∀ w ∈ u_ws (am_q a).1 (am_q a).2.1 (am_q a).2.2, w ∈ am_G := by
    intro a ha
    rcases (show a = 0 ∨ a = 1 ∨ a = 2 ∨ a = 3 ∨ a = 4 ∨ a = 5 ∨ a = 6 ∨ a = 7 ∨ a = 8 ∨ a = 9 by omega) with rfl | rfl | rfl | rfl | rfl | rfl | rfl | rfl | rfl | rfl
    all_goals
      intro w hw
      refine List.mem_filter.mpr ⟨?_, ?_⟩
      · revert w; decide +kernel
      · revert w; decide +kernel
  exact key
theorem am_cl_at {a : Nat} (h : a < vwCl.length) : vwCl[a]? = some (am_q a) := by
  unfold am_q
  rw [List.getElem?_eq_getElem h]; rfl
theorem am_ft_ok : ∀ a, a < vwCl.length → ∀ k, k < (am_q a).2.2 → parseFieldDescriptor ((am_q a).2.1 k).2.2.1 = some (am_ft a k) := by decide +kernel
theorem am_nm_ok : ∀ a, a < vwCl.length → ∀ j, j < (am_q a).2.2 → ∀ k, k < (am_q a).2.2 → j ≠ k → ((am_q a).2.1 j).2.1 ≠ ((am_q a).2.1 k).2.1 := by decide +kernel
theorem am_df_ok : ∀ a, a < vwCl.length → ∀ j, j < (am_q a).2.2 → defaultValue (am_ft a j) = vp_V ((am_df[a]?).getD []) j := by decide +kernel
theorem am_df_wv : ∀ (a : Nat), ∀ v ∈ (am_df[a]?).getD [], ∀ n, am_wv n v := by
  intro a v hv n
  cases v with
  | ref k =>
    exfalso
    have key : ∀ l ∈ am_df, ∀ v ∈ l, (match v with | .ref _ => false | _ => true) = true := by decide +kernel
    cases h : am_df[a]? with
    | none => rw [h] at hv; simp at hv
    | some l => rw [h] at hv; have := key l (List.mem_of_getElem? h) _ hv; cases this
  | _ => trivial
theorem am_df_cv : ∀ (a : Nat) (ad : Nat → Nat) (b : Nat), ((am_df[a]?).getD []).map (am_cv ad b) = (am_df[a]?).getD [] := by
  intro a ad b
  have key : ∀ l ∈ am_df, ∀ v ∈ l, (match v with | .ref _ => false | .retAddr _ => false | _ => true) = true := by decide +kernel
  have h2 : ∀ v ∈ (am_df[a]?).getD [], am_cv ad b v = v := by
    intro v hv
    cases h : am_df[a]? with
    | none => rw [h] at hv; simp at hv
    | some l =>
      rw [h] at hv
      have := key l (List.mem_of_getElem? h) _ hv
      cases v <;> first | rfl | cases this
  exact (List.map_congr_left h2).trans (List.map_id _)
section AMS
variable {p : Program} {l : Launch} {e : Env} {R : Room} {s : State} {mid : MethodId} {args : Array Value} {below : List Frame} {meth : Method} {c : Code}
/-- what is fixed while a method runs -/
def am_Ct (p : Program) (R : Room) (s : State) (mid : MethodId) (args : Array Value) (meth : Method) (c : Code) (m d : Nat) (D : va_G) (A0 : Nat → Prop) (cA : Nat → ClassId) (b : Nat) (h0 : am_H) : Prop :=
  p.tables.exec = Jvm.exec ∧ c.code = am_by m ∧ meth.sig.returnType = am_rt m ∧ c.maxLocals = am_mx m ∧ s.vm.findClass (am_cn m) = some mid.cls ∧ (∀ w ∈ am_G, w.before args s = true) ∧ meth.locks = false ∧ ((am_nm m).name = "<init>" → meth.name = "<init>")
    ∧ am_Ext A0 s s.heap ∧ (∀ q, s.heap.size ≤ q → A0 q) ∧ va_K D vwCl (am_tys cA) s ∧ (va_X b h0.2.2.1 h0.2.2.2 s s.heap ∧ b < s.heap.size ∧ ¬ A0 b) ∧ 12 + d ≤ R.frames ∧ 400 + 40 * d ≤ R.locals ∧ (am_hh m ≠ [] → c.exceptionTable.toList = tableOf (am_hh m))
/-- what changes: the world, the locals, the numbers of cells and slots made -/
def am_Dy (s : State) (m : Nat) (D : va_G) (A0 : Nat → Prop) (cA : Nat → ClassId) (b : Nat) (h0 : am_H) (ad0 ad : Nat → Nat) (h : am_H) (H : Heap) (locs : List Loc) (cells slots : Nat) (ls : List Value) (lsc : Array Slot) (st : List Value) : Prop :=
  va_P D vwCl (am_ws ad b cA h.1) H ∧ va_D A0 (am_ws ad b cA h.1) ∧ va_S A0 s.heap H locs ∧ am_hl ad b lsc (am_mx m) ls ∧ am_wh h.1 ∧ (∀ v ∈ ls, am_wv h.1.length v) ∧ (∀ v ∈ st, am_wv h.1.length v)
    ∧ (cells + h0.2.1.1 = h.2.1.1 ∧ slots + h0.2.1.2 = h.2.1.2 ∧ h.2.2 = h0.2.2) ∧ h0.1.length ≤ h.1.length ∧ ∀ k, k < h0.1.length → ad k = ad0 k
theorem am_dec {m pc : Nat} {e : am_I} (h : am_tab m pc = some e) (hn : e.1 ≠ .athrow) : decode (am_by m) pc = .ok (e.1, e.2.1) ∧ (am_ln e.1 = 0 ∨ am_ln e.1 = e.2.1) ∧ am_lkw m e = true := by
  have h1 := am_lk_of h
  unfold am_lk at h1
  split at h1
  next h2 => exact absurd h2 hn
  next => simpa [and_assoc] using h1
theorem am_Dy.stk {s : State} {m : Nat} {D : va_G} {A0 : Nat → Prop} {cA : Nat → ClassId} {b : Nat} {h0 : am_H} {ad0 ad : Nat → Nat} {h : am_H} {H : Heap} {locs : List Loc} {cells slots : Nat} {ls : List Value} {lsc : Array Slot} {st st' : List Value}
    (X : am_Dy s m D A0 cA b h0 ad0 ad h H locs cells slots ls lsc st) (hs : ∀ v ∈ st', am_wv h.1.length v) : am_Dy s m D A0 cA b h0 ad0 ad h H locs cells slots ls lsc st' :=
  ⟨X.1, X.2.1, X.2.2.1, X.2.2.2.1, X.2.2.2.2.1, X.2.2.2.2.2.1, hs, X.2.2.2.2.2.2.2⟩
theorem am_Dy.loc {s : State} {m : Nat} {D : va_G} {A0 : Nat → Prop} {cA : Nat → ClassId} {b : Nat} {h0 : am_H} {ad0 ad : Nat → Nat} {h : am_H} {H : Heap} {locs : List Loc} {cells slots : Nat} {ls ls' : List Value} {lsc lsc' : Array Slot} {st st' : List Value}
    (X : am_Dy s m D A0 cA b h0 ad0 ad h H locs cells slots ls lsc st) (hl : am_hl ad b lsc' (am_mx m) ls') (hw : ∀ v ∈ ls', am_wv h.1.length v) (hs : ∀ v ∈ st', am_wv h.1.length v) : am_Dy s m D A0 cA b h0 ad0 ad h H locs cells slots ls' lsc' st' :=
  ⟨X.1, X.2.1, X.2.2.1, hl, X.2.2.2.2.1, hw, hs, X.2.2.2.2.2.2.2⟩

theorem am_w_nat : am_wat 3183 = some (.native arraycopyName) := by decide +kernel
theorem am_w_acs : am_wat 3182 = some (.static arraycopyName) := by decide +kernel
theorem am_w_sys : am_wat 1019 = some (.initialized "java/lang/System") := by decide +kernel
theorem am_w_oi : am_wat 1026 = some (.instanceMethod objectInit) := by decide +kernel
theorem am_w_oc : am_wat 1027 = some (.code objectInit ⟨#[0xb1]⟩ 1 none) := by decide +kernel
theorem am_w_ms : am_wat 1017 = some (.initialized "java/lang/Math") := by decide +kernel
theorem am_w_smax : am_wat 2162 = some (.static Lib.Math.max.name) := by decide +kernel
theorem am_w_cmax : am_wat 2163 = some (.code Lib.Math.max.name Lib.Math.max.code 2 (some .int)) := by decide +kernel
theorem am_w_smin : am_wat 2159 = some (.static Lib.Math.min.name) := by decide +kernel
theorem am_w_cmin : am_wat 2160 = some (.code Lib.Math.min.name Lib.Math.min.code 2 (some .int)) := by decide +kernel
theorem am_w_sabs : am_wat 3012 = some (.static Lib.Math.abs.name) := by decide +kernel
theorem am_w_cabs : am_wat 3013 = some (.code Lib.Math.abs.name Lib.Math.abs.code 1 (some .int)) := by decide +kernel
theorem am_l1 {len : Nat} (h : (1 : Nat) = 0 ∨ (1 : Nat) = len) : len = 1 := by omega
theorem am_l2 {len : Nat} (h : (2 : Nat) = 0 ∨ (2 : Nat) = len) : len = 2 := by omega
theorem am_l3 {len : Nat} (h : (3 : Nat) = 0 ∨ (3 : Nat) = len) : len = 3 := by omega
theorem am_nw_mem {w : Nat} {c : Cond} (h : am_wat w = some c) (hg : am_isN c = true) : c ∈ am_NW := List.mem_filter.mpr ⟨am_wat_mem h, hg⟩
theorem am_wi {n : Nat} {st : List Value} {x : Int32} (h : ∀ v ∈ st, am_wv n v) : ∀ v ∈ Value.int x :: st, am_wv n v := fun v hv => by
  rcases List.mem_cons.mp hv with rfl | hv
  · trivial
  · exact h v hv
theorem am_wj {n : Nat} {st : List Value} {x : Int64} (h : ∀ v ∈ st, am_wv n v) : ∀ v ∈ Value.long x :: st, am_wv n v := fun v hv => by
  rcases List.mem_cons.mp hv with rfl | hv
  · trivial
  · exact h v hv
theorem am_wn {n : Nat} {st : List Value} (h : ∀ v ∈ st, am_wv n v) : ∀ v ∈ Value.null :: st, am_wv n v := fun v hv => by
  rcases List.mem_cons.mp hv with rfl | hv
  · trivial
  · exact h v hv
theorem am_wz {n k : Nat} {st : List Value} (h : ∀ v ∈ st, am_wv n v) : ∀ v ∈ Value.retAddr k :: st, am_wv n v := fun v hv => by
  rcases List.mem_cons.mp hv with rfl | hv
  · trivial
  · exact h v hv
theorem am_wc {n : Nat} {st : List Value} {w : Value} (hw : am_wv n w) (h : ∀ v ∈ st, am_wv n v) : ∀ v ∈ w :: st, am_wv n v := fun v hv => by
  rcases List.mem_cons.mp hv with rfl | hv
  · exact hw
  · exact h v hv
theorem am_wr {n k : Nat} {st : List Value} (hw : am_wv n (.ref k)) (h : ∀ v ∈ st, am_wv n v) : ∀ v ∈ Value.ref k :: st, am_wv n v := am_wc hw h
theorem am_wt {n : Nat} {st : List Value} {w : Value} (h : ∀ v ∈ w :: st, am_wv n v) : ∀ v ∈ st, am_wv n v := fun v hv => h v (List.mem_cons_of_mem _ hv)
theorem am_S_some {nx : Nat} {ls : List Value} {h : am_H} {o : Option (List Value)} {t : Nat × List Value × List Value × am_H} (hp : am_S nx ls h o = some t) : ∃ st', o = some st' ∧ t = (nx, ls, st', h) := by
  cases o with
  | none => cases hp
  | some st' => cases hp; exact ⟨st', rfl, rfl⟩
theorem am_SL_some {nx : Nat} {h : am_H} {o : Option (List Value × List Value)} {t : Nat × List Value × List Value × am_H} (hp : am_SL nx h o = some t) : ∃ q, o = some q ∧ t = (nx, q.1, q.2, h) := by
  cases o with
  | none => cases hp
  | some st' => cases hp; exact ⟨st', rfl, rfl⟩
theorem am_SH_some {nx : Nat} {ls : List Value} {o : Option (List Value × am_H)} {t : Nat × List Value × List Value × am_H} (hp : am_SH nx ls o = some t) : ∃ q, o = some q ∧ t = (nx, ls, q.1, q.2) := by
  cases o with
  | none => cases hp
  | some st' => cases hp; exact ⟨st', rfl, rfl⟩
theorem am_jmp_some {pc : Nat} {off : Int} {ls st : List Value} {h : am_H} {t : Nat × List Value × List Value × am_H} (hp : am_jmp pc off ls st h = some t) : 0 ≤ (pc : Int) + off ∧ t = (((pc : Int) + off).toNat, ls, st, h) := by
  unfold am_jmp at hp
  split at hp
  next q => cases hp; exact ⟨q, rfl⟩
  next => cases hp
theorem am_br_some {b : Bool} {pc nx : Nat} {off : Int} {ls st : List Value} {h : am_H} {t : Nat × List Value × List Value × am_H} (hp : am_br b pc nx off ls st h = some t) : 0 ≤ (pc : Int) + off ∧ t = (if b = true then ((pc : Int) + off).toNat else nx, ls, st, h) := by
  unfold am_br at hp
  split at hp
  next q => cases hp; exact ⟨q, rfl⟩
  next => cases hp
theorem am_ii_some {f : Int32 → Int32 → Int32} {st st' : List Value} (h : am_ii f st = some st') : ∃ x y r, st = .int y :: .int x :: r ∧ st' = .int (f x y) :: r := by
  unfold am_ii at h
  split at h
  next y x r => cases h; exact ⟨x, y, r, rfl, rfl⟩
  next => cases h
theorem am_iiz_some {f : Int32 → Int32 → Int32} {st st' : List Value} (h : am_iiz f st = some st') : ∃ x y r, ¬ y = 0 ∧ st = .int y :: .int x :: r ∧ st' = .int (f x y) :: r := by
  unfold am_iiz at h
  split at h
  next y x r =>
    split at h
    next => cases h
    next q => cases h; exact ⟨x, y, r, q, rfl, rfl⟩
  next => cases h
theorem am_mth_some {f : Int32 → Int32 → Int32} {st st' : List Value} (h : am_mth f st = some st') : ∃ x y r, st = .int y :: .int x :: r ∧ am_cs r ≤ 8 ∧ st' = .int (f x y) :: r := by
  unfold am_mth at h
  split at h
  next y x r =>
    split at h
    next q => cases h; exact ⟨x, y, r, rfl, q, rfl⟩
    next => cases h
  next => cases h
theorem am_mab_some {st st' : List Value} (h : am_mab st = some st') : ∃ x r, st = .int x :: r ∧ am_cs r ≤ 8 ∧ st' = .int (if 0 ≤ x then x else 0 - x) :: r := by
  unfold am_mab at h
  split at h
  next x r =>
    split at h
    next q => cases h; exact ⟨x, r, rfl, q, rfl⟩
    next => cases h
  next => cases h
theorem am_ll_some {f : Int64 → Int64 → Int64} {st st' : List Value} (h : am_ll f st = some st') : ∃ x y r, st = .long y :: .long x :: r ∧ st' = .long (f x y) :: r := by
  unfold am_ll at h
  split at h
  next y x r => cases h; exact ⟨x, y, r, rfl, rfl⟩
  next => cases h
theorem am_llz_some {f : Int64 → Int64 → Int64} {st st' : List Value} (h : am_llz f st = some st') : ∃ x y r, ¬ y = 0 ∧ st = .long y :: .long x :: r ∧ st' = .long (f x y) :: r := by
  unfold am_llz at h
  split at h
  next y x r =>
    split at h
    next => cases h
    next q => cases h; exact ⟨x, y, r, q, rfl, rfl⟩
  next => cases h
theorem am_li_some {f : Int64 → Int32 → Int64} {st st' : List Value} (h : am_li f st = some st') : ∃ x y r, st = .int y :: .long x :: r ∧ st' = .long (f x y) :: r := by
  unfold am_li at h
  split at h
  next y x r => cases h; exact ⟨x, y, r, rfl, rfl⟩
  next => cases h
theorem am_un_some {f : Int32 → Value} {st st' : List Value} (h : am_un f st = some st') : ∃ x r, st = .int x :: r ∧ st' = f x :: r := by
  unfold am_un at h
  split at h
  next x r => cases h; exact ⟨x, r, rfl, rfl⟩
  next => cases h
theorem am_unl_some {f : Int64 → Value} {st st' : List Value} (h : am_unl f st = some st') : ∃ x r, st = .long x :: r ∧ st' = f x :: r := by
  unfold am_unl at h
  split at h
  next x r => cases h; exact ⟨x, r, rfl, rfl⟩
  next => cases h
theorem am_lcm_some {st st' : List Value} (h : am_lcm st = some st') : ∃ x y r, st = .long y :: .long x :: r ∧ st' = .int (lg_cmp x y) :: r := by
  unfold am_lcm at h
  split at h
  next y x r => cases h; exact ⟨x, y, r, rfl, rfl⟩
  next => cases h
theorem am_ldi_some {ls : List Value} {i : Nat} {st st' : List Value} (h : am_ldi ls i st = some st') : ∃ x, ls[i]? = some (.int x) ∧ st' = .int x :: st := by
  unfold am_ldi at h
  split at h
  next x q => cases h; exact ⟨x, q, rfl⟩
  next => cases h
theorem am_ldl_some {ls : List Value} {i : Nat} {st st' : List Value} (h : am_ldl ls i st = some st') : ∃ x, ls[i]? = some (.long x) ∧ st' = .long x :: st := by
  unfold am_ldl at h
  split at h
  next x q => cases h; exact ⟨x, q, rfl⟩
  next => cases h
theorem am_lda_some {ls : List Value} {i : Nat} {st st' : List Value} (h : am_lda ls i st = some st') : (∃ x, ls[i]? = some (.ref x) ∧ st' = .ref x :: st) ∨ (ls[i]? = some .null ∧ st' = .null :: st) ∨ (ls[i]? = some (.retAddr 0) ∧ st' = .retAddr 0 :: st) := by
  unfold am_lda at h
  split at h
  next x q => cases h; exact Or.inl ⟨x, q, rfl⟩
  next q => cases h; exact Or.inr (Or.inl ⟨q, rfl⟩)
  next q => cases h; exact Or.inr (Or.inr ⟨q, rfl⟩)
  next => cases h
theorem am_sti_some {m : Nat} {ls : List Value} {i : Nat} {st : List Value} {q : List Value × List Value} (h : am_sti m ls i st = some q) : ∃ x r, st = .int x :: r ∧ i < am_mx m ∧ q = (am_s1 ls i (.int x), r) := by
  unfold am_sti at h
  split at h
  next x r =>
    split at h
    next hn => cases h; exact ⟨x, r, rfl, hn, rfl⟩
    next => cases h
  next => cases h
theorem am_stl_some {m : Nat} {ls : List Value} {i : Nat} {st : List Value} {q : List Value × List Value} (h : am_stl m ls i st = some q) : ∃ x r, st = .long x :: r ∧ i + 1 < am_mx m ∧ q = (am_s2 ls i (.long x), r) := by
  unfold am_stl at h
  split at h
  next x r =>
    split at h
    next hn => cases h; exact ⟨x, r, rfl, hn, rfl⟩
    next => cases h
  next => cases h
theorem am_sta_some {m : Nat} {ls : List Value} {i : Nat} {st : List Value} {q : List Value × List Value} (h : am_sta m ls i st = some q) : (∃ x r, st = .ref x :: r ∧ i < am_mx m ∧ q = (am_s1 ls i (.ref x), r)) ∨ (∃ r, st = .null :: r ∧ i < am_mx m ∧ q = (am_s1 ls i .null, r)) := by
  unfold am_sta at h
  split at h
  next x r =>
    split at h
    next hn => cases h; exact Or.inl ⟨x, r, rfl, hn, rfl⟩
    next => cases h
  next r =>
    split at h
    next hn => cases h; exact Or.inr ⟨r, rfl, hn, rfl⟩
    next => cases h
  next => cases h
theorem am_get_some {h : am_H} {a b : Nat} {st st' : List Value} (hg : am_get h a b st = some st') : ∃ k r fs v, st = .ref k :: r ∧ h.1[k]? = some (.inr (a, fs)) ∧ fs[b]? = some v ∧ st' = v :: r := by
  unfold am_get at hg
  split at hg
  next k r =>
    split at hg
    next ci fs hk =>
      split at hg
      next hc =>
        subst hc
        cases hv : fs[b]? with
        | none => rw [hv] at hg; cases hg
        | some v => rw [hv] at hg; cases hg; exact ⟨k, r, fs, v, rfl, hk, hv, rfl⟩
      next => cases hg
    next => cases hg
  next => cases hg
theorem am_put_some {h : am_H} {a b : Nat} {st : List Value} {q : List Value × am_H} (hg : am_put h a b st = some q) : ∃ v k r fs, st = v :: .ref k :: r ∧ h.1[k]? = some (.inr (a, fs)) ∧ b < fs.length ∧ narrow (am_ft a b) v = v ∧ fits (am_ft a b) v = true ∧ q = (r, am_w h k (.inr (a, fs.set b v))) := by
  unfold am_put at hg
  split at hg
  next v k r =>
    split at hg
    next ci fs hk =>
      split at hg
      next hc =>
        obtain ⟨rfl, h1, h2, h3⟩ := hc
        cases hg
        exact ⟨v, k, r, fs, rfl, hk, h1, h2, h3, rfl⟩
      next => cases hg
    next => cases hg
  next => cases hg
theorem am_ix_in {i : Int32} {n : Nat} (h : am_ix i n = true) : vp_in i n := vp_in_iff.mpr (by simpa [am_ix] using h)
theorem am_ald_some {h : am_H} {t : Nat} {st st' : List Value} (hg : am_ald h t st = some st') : ∃ i k r n f, st = .int i :: .ref k :: r ∧ h.1[k]? = some (.inl (t, n, .inl f)) ∧ am_ix i n = true ∧ st' = .int (f i.toNatClampNeg) :: r := by
  unfold am_ald at hg
  split at hg
  next i k r =>
    split at hg
    next t' n f hk =>
      split at hg
      next hc => obtain ⟨rfl, h1⟩ := hc; cases hg; exact ⟨i, k, r, n, f, rfl, hk, h1, rfl⟩
      next => cases hg
    next => cases hg
  next => cases hg
theorem am_sld_some {h : am_H} {st st' : List Value} (hg : am_sld h st = some st') : ∃ i r, st = .int i :: .retAddr 0 :: r ∧ am_ix i h.2.2.1 = true ∧ st' = .int (h.2.2.2 i.toNatClampNeg) :: r := by
  unfold am_sld at hg
  split at hg
  next i r =>
    split at hg
    next hc => cases hg; exact ⟨i, r, rfl, hc, rfl⟩
    next => cases hg
  next => cases hg
theorem am_ast_some {h : am_H} {t : Nat} {ty : FieldType} {st : List Value} {q : List Value × am_H} (hg : am_ast h t ty st = some q) : ∃ x i k r n f, st = .int x :: .int i :: .ref k :: r ∧ h.1[k]? = some (.inl (t, n, .inl f)) ∧ am_ix i n = true ∧ q = (r, am_w h k (.inl (t, n, .inl (upd f i.toNatClampNeg (vp_nar ty x))))) := by
  unfold am_ast at hg
  split at hg
  next x i k r =>
    split at hg
    next t' n f hk =>
      split at hg
      next hc => obtain ⟨rfl, h1⟩ := hc; cases hg; exact ⟨x, i, k, r, n, f, rfl, hk, h1, rfl⟩
      next => cases hg
    next => cases hg
  next => cases hg
theorem am_asi_some {h : am_H} {st : List Value} {q : List Value × am_H} (hg : am_asi h st = some q) : ∃ x i k r n f, st = .int x :: .int i :: .ref k :: r ∧ h.1[k]? = some (.inl (0, n, .inl f)) ∧ am_ix i n = true ∧ q = (r, am_w h k (.inl (0, n, .inl (upd f i.toNatClampNeg x)))) := by
  unfold am_asi at hg
  split at hg
  next x i k r =>
    split at hg
    next t' n f hk =>
      split at hg
      next hc => obtain ⟨rfl, h1⟩ := hc; cases hg; exact ⟨x, i, k, r, n, f, rfl, hk, h1, rfl⟩
      next => cases hg
    next => cases hg
  next => cases hg
theorem am_aldl_some {h : am_H} {st st' : List Value} (hg : am_aldl h st = some st') : ∃ i k r n f, st = .int i :: .ref k :: r ∧ h.1[k]? = some (.inl (3, n, .inr (.inl f))) ∧ am_ix i n = true ∧ st' = .long (f i.toNatClampNeg) :: r := by
  unfold am_aldl at hg
  split at hg
  next i k r =>
    split at hg
    next t' n f hk =>
      split at hg
      next hc => obtain ⟨rfl, h1⟩ := hc; cases hg; exact ⟨i, k, r, n, f, rfl, hk, h1, rfl⟩
      next => cases hg
    next => cases hg
  next => cases hg
theorem am_astl_some {h : am_H} {st : List Value} {q : List Value × am_H} (hg : am_astl h st = some q) : ∃ x i k r n f, st = .long x :: .int i :: .ref k :: r ∧ h.1[k]? = some (.inl (3, n, .inr (.inl f))) ∧ am_ix i n = true ∧ q = (r, am_w h k (.inl (3, n, .inr (.inl (vp_updL f i.toNatClampNeg x))))) := by
  unfold am_astl at hg
  split at hg
  next x i k r =>
    split at hg
    next t' n f hk =>
      split at hg
      next hc => obtain ⟨rfl, h1⟩ := hc; cases hg; exact ⟨x, i, k, r, n, f, rfl, hk, h1, rfl⟩
      next => cases hg
    next => cases hg
  next => cases hg
theorem am_aldr_some {h : am_H} {st st' : List Value} (hg : am_aldr h st = some st') : ∃ i k r n f, st = .int i :: .ref k :: r ∧ h.1[k]? = some (.inl (4, n, .inr (.inr (.inr (.inr f))))) ∧ am_ix i n = true ∧ st' = va_rf (f i.toNatClampNeg) :: r := by
  unfold am_aldr at hg
  split at hg
  next i k r =>
    split at hg
    next t' n f hk =>
      split at hg
      next hc => obtain ⟨rfl, h1⟩ := hc; cases hg; exact ⟨i, k, r, n, f, rfl, hk, h1, rfl⟩
      next => cases hg
    next => cases hg
  next => cases hg
theorem am_astr_some {h : am_H} {st : List Value} {q : List Value × am_H} (hg : am_astr h st = some q) : ∃ v i k r n f fs, st = .ref v :: .int i :: .ref k :: r ∧ h.1[k]? = some (.inl (4, n, .inr (.inr (.inr (.inr f))))) ∧ h.1[v]? = some (.inr (3, fs)) ∧ am_ix i n = true ∧ q = (r, am_w h k (.inl (4, n, .inr (.inr (.inr (.inr (va_up f i.toNatClampNeg (some v)))))))) := by
  unfold am_astr at hg
  split at hg
  next v i k r =>
    split at hg
    next t' n f ci fs hk hv =>
      split at hg
      next hc => obtain ⟨rfl, rfl, h1⟩ := hc; cases hg; exact ⟨v, i, k, r, n, f, fs, rfl, hk, hv, h1, rfl⟩
      next => cases hg
    next => cases hg
  next => cases hg
theorem am_nwa_some {h : am_H} {t : Nat} {st : List Value} {q : List Value × am_H} (hg : am_nwa h t st = some q) : ∃ n r, st = .int n :: r ∧ 0 ≤ n.toInt ∧ n.toInt ≤ 60000 ∧ q = (.ref h.1.length :: r, am_n h (.inl (t, am_zero t n.toNatClampNeg)) n.toNatClampNeg) := by
  unfold am_nwa at hg
  split at hg
  next n r =>
    split at hg
    next hc => cases hg; exact ⟨n, r, rfl, hc.1, hc.2, rfl⟩
    next => cases hg
  next => cases hg
theorem am_cpy_some {h : am_H} {st : List Value} {q : List Value × am_H} (hg : am_cpy h st = some q) : ∃ n dp k1 sp k0 r n0 n1 f g, st = .int n :: .int dp :: .ref k1 :: .int sp :: .ref k0 :: r ∧ h.1[k0]? = some (.inl (0, n0, .inl f)) ∧ h.1[k1]? = some (.inl (0, n1, .inl g)) ∧ ¬ sp < 0 ∧ ¬ dp < 0 ∧ ¬ n < 0 ∧ sp.toNatClampNeg + n.toNatClampNeg ≤ n0 ∧ dp.toNatClampNeg + n.toNatClampNeg ≤ n1 ∧ am_cs r ≤ 8 ∧ q = (r, am_w h k1 (.inl (0, n1, .inl (va_cpy f g sp.toNatClampNeg dp.toNatClampNeg n.toNatClampNeg)))) := by
  unfold am_cpy at hg
  split at hg
  next n dp k1 sp k0 r =>
    split at hg
    next t0 n0 f t1 n1 g hk0 hk1 =>
      split at hg
      next hc =>
        obtain ⟨rfl, rfl, h1, h2, h3, h4, h5, h6⟩ := hc
        cases hg
        exact ⟨n, dp, k1, sp, k0, r, n0, n1, f, g, rfl, hk0, hk1, h1, h2, h3, h4, h5, h6, rfl⟩
      next => cases hg
    next => cases hg
  next => cases hg
theorem am_cc_eq {x y : Int32} : am_cc .eq x y = true ↔ x = y := by simp [am_cc]
theorem am_cc_ne {x y : Int32} : am_cc .ne x y = true ↔ ¬ x = y := by simp [am_cc]
theorem am_cc_lt {x y : Int32} : am_cc .lt x y = true ↔ x < y := by simp [am_cc]
theorem am_cc_ge {x y : Int32} : am_cc .ge x y = true ↔ y ≤ x := by simp [am_cc]
theorem am_cc_gt {x y : Int32} : am_cc .gt x y = true ↔ y < x := by simp [am_cc]
theorem am_cc_le {x y : Int32} : am_cc .le x y = true ↔ x ≤ y := by simp [am_cc]
theorem am_nf {ty : FieldType} {v : Value} (ad : Nat → Nat) (b : Nat) (h1 : narrow ty v = v) (h2 : fits ty v = true) : narrow ty (am_cv ad b v) = am_cv ad b v ∧ fits ty (am_cv ad b v) = true := by
  cases v with
  | ref k => cases ty <;> first | exact ⟨rfl, rfl⟩ | cases h2
  | retAddr k => cases ty <;> cases h2
  | _ => exact ⟨h1, h2⟩
theorem am_zero_wa (t n N : Nat) : am_wa N (am_zero t n) := by
  unfold am_zero
  split
  · trivial
  · split
    · intro j k h; cases h
    · trivial
theorem am_Dy.mem {s : State} {m : Nat} {D : va_G} {A0 : Nat → Prop} {cA : Nat → ClassId} {b : Nat} {h0 : am_H} {ad0 ad : Nat → Nat} {h : am_H} {H H1 : Heap} {locs locs1 : List Loc} {cells slots : Nat} {ls : List Value} {lsc : Array Slot} {st st' : List Value} {k : Nat} {e : va_E}
    (X : am_Dy s m D A0 cA b h0 ad0 ad h H locs cells slots ls lsc st) (he : am_we h.1.length e) (hP : va_P D vwCl ((am_ws ad b cA h.1).set k (ad k, am_ce ad b cA e)) H1) (hD : va_D A0 ((am_ws ad b cA h.1).set k (ad k, am_ce ad b cA e))) (hS : va_S A0 s.heap H1 locs1) (hs : ∀ v ∈ st', am_wv h.1.length v) :
    am_Dy s m D A0 cA b h0 ad0 ad (am_w h k e) H1 locs1 cells slots ls lsc st' := by
  obtain ⟨-, -, -, hl, hwh, hwl, -, hcnt, hle, had⟩ := X
  rw [am_ws_set] at hP hD
  have e1 : (am_w h k e).1.length = h.1.length := List.length_set
  refine ⟨hP, hD, hS, hl, am_wh_set hwh he, ?_, ?_, hcnt, by rw [e1]; exact hle, had⟩
  · rw [e1]; exact hwl
  · rw [e1]; exact hs
theorem am_Dy.new {s : State} {m : Nat} {D : va_G} {A0 : Nat → Prop} {cA : Nat → ClassId} {b : Nat} {h0 : am_H} {ad0 ad : Nat → Nat} {h : am_H} {H H1 : Heap} {locs locs1 : List Loc} {cells slots q sl : Nat} {ls : List Value} {lsc : Array Slot} {st : List Value} {e : va_E}
    (X : am_Dy s m D A0 cA b h0 ad0 ad h H locs cells slots ls lsc st) (he : am_we h.1.length e) (hee : am_ce (fun k => if k = h.1.length then q else ad k) b cA e = am_ce ad b cA e)
    (hP : va_P D vwCl (am_ws ad b cA h.1 ++ [(q, am_ce ad b cA e)]) H1) (hD : va_D A0 (am_ws ad b cA h.1 ++ [(q, am_ce ad b cA e)])) (hS : va_S A0 s.heap H1 locs1) :
    am_Dy s m D A0 cA b h0 ad0 (fun k => if k = h.1.length then q else ad k) (am_n h e sl) H1 locs1 (cells + 1) (slots + sl) ls lsc (.ref h.1.length :: st) := by
  obtain ⟨-, -, -, hl, hwh, hwl, hws, hcnt, hle, had⟩ := X
  have hag : ∀ k, k < h.1.length → (fun k => if k = h.1.length then q else ad k) k = ad k := fun k hk => if_neg (by omega)
  have ew : am_ws (fun k => if k = h.1.length then q else ad k) b cA (am_n h e sl).1 = am_ws ad b cA h.1 ++ [(q, am_ce ad b cA e)] := by
    show am_ws _ b cA (h.1 ++ [e]) = _
    rw [am_ws_push, am_ws_eq hag hwh, hee, if_pos rfl]
  have en : (am_n h e sl).1.length = h.1.length + 1 := by show (h.1 ++ [e]).length = _; rw [List.length_append]; rfl
  refine ⟨by rw [ew]; exact hP, by rw [ew]; exact hD, hS, am_hl_eq hag hwl hl, am_wh_push hwh he, ?_, ?_, ⟨?_, ?_, hcnt.2.2⟩, by rw [en]; omega, fun k hk => (hag k (by omega)).trans (had k hk)⟩
  · intro v hv; rw [en]; exact am_wv_mono (Nat.le_succ _) (hwl v hv)
  · intro v hv
    rw [en]
    rcases List.mem_cons.mp hv with rfl | hv
    · exact Nat.lt_succ_self _
    · exact am_wv_mono (Nat.le_succ _) (hws v hv)
  · show cells + 1 + h0.2.1.1 = h.2.1.1 + 1; omega
  · show slots + sl + h0.2.1.2 = h.2.1.2 + sl; omega
theorem am_new_go {m pc sl q : Nat} {D : va_G} {A0 : Nat → Prop} {cA : Nat → ClassId} {b : Nat} {h0 : am_H} {ad0 ad : Nat → Nat} {ls st : List Value} {h : am_H} {H H1 : Heap} {locs locs1 : List Loc} {cells slots : Nat} {lsc : Array Slot} {Q : State → Prop} {e9 : va_E}
    (X : am_Dy s m D A0 cA b h0 ad0 ad h H locs cells slots ls lsc st) {z : va_E} (he : am_we h.1.length z) (hee : am_ce (fun k => if k = h.1.length then q else ad k) b cA z = e9) (hee2 : am_ce ad b cA z = e9)
    (hP : va_P D vwCl (am_ws ad b cA h.1 ++ [(q, e9)]) H1) (hD : va_D A0 (am_ws ad b cA h.1 ++ [(q, e9)])) (hS : va_S A0 s.heap H1 locs1)
    (k : ∀ (ad' : Nat → Nat) (H' : Heap) (locs' : List Loc) (cells' slots' : Nat) (lsc' : Array Slot), am_Dy s m D A0 cA b h0 ad0 ad' (am_n h z sl) H' locs' cells' slots' ls lsc' (.ref h.1.length :: st) → W p l e R s mid args below meth c H' locs' cells' slots' Q (F0 mid pc lsc' ((Value.ref h.1.length :: st).map (am_cv ad' b)))) :
    W p l e R s mid args below meth c H1 locs1 (cells + 1) (slots + sl) Q (F0 mid pc lsc (.ref q :: st.map (am_cv ad b))) := by
  subst hee2
  have hws := X.2.2.2.2.2.2.1
  have := k _ H1 locs1 (cells + 1) (slots + sl) lsc (X.new he hee hP hD hS)
  rw [List.map_cons] at this
  have e2 : am_cv (fun k => if k = h.1.length then q else ad k) b (.ref h.1.length) = .ref q := by show Value.ref (if _ then _ else _) = _; rw [if_pos rfl]
  rw [e2, am_cvl_eq (fun k hk => if_neg (by omega)) hws] at this
  exact this
theorem am_ca_zero (ad : Nat → Nat) (t n : Nat) : am_ca ad (am_zero t n) = am_zero t n := by
  unfold am_zero
  split
  · rfl
  · split <;> rfl
theorem am_cls_one {D : va_G} {cA : Nat → ClassId} {cN : ClassId} {ty : FieldType} {t : Nat} (hK : va_K D vwCl (am_tys cA ++ [(cN, ty)]) s) (ht : (am_tys cA)[t]? = some (cA t, ty)) : cN = cA t := by
  have h1 : va_RA s cN ty := (hK.2 5 (cN, ty) rfl).2
  have hlt : t < (am_tys cA).length := (List.getElem?_eq_some_iff.mp ht).1
  have h2 : va_RA s (cA t) ty := (hK.2 t (cA t, ty) (by rw [List.getElem?_append_left hlt]; exact ht)).2
  cases ty with
  | object C =>
    obtain ⟨_, _, _, _, _, g1⟩ := h1
    obtain ⟨_, _, _, _, _, g2⟩ := h2
    exact Option.some.inj (g1.symm.trans g2)
  | _ => exact Option.some.inj (Eq.trans (Eq.symm h1) h2)
theorem am_nwa_go {pc : Nat} {D : va_G} {A0 : Nat → Prop} {cA : Nat → ClassId} {cc : ByteArray} {ws : va_W} {rest : List Value} {H : Heap} {locs : List Loc} {cells slots : Nat} {lsc : Array Slot} {Q : State → Prop} {atype : ArrayType} {n : Int32}
    (hx : p.tables.exec = Jvm.exec) (hb : c.code = cc) (harr : (Cond.arrayClass (newarray.typeOf atype)).before args s = true) (hat : am_at atype < 4) (hK : va_K D vwCl (am_tys cA) s) (hP : va_P D vwCl ws H) (hD : va_D A0 ws) (hS : va_S A0 s.heap H locs) (hA : ∀ q, s.heap.size ≤ q → A0 q)
    (hn : ¬ n < 0) (hnb : n.toNatClampNeg ≤ 60000) (hc1 : cells + 1 ≤ R.cells) (hc2 : slots + n.toNatClampNeg ≤ R.slots) (hd : decode cc pc = .ok (.newarray atype, 2))
    (kk : ∀ (q : Nat) (H1 : Heap), va_P D vwCl (ws ++ [(q, .inl (cA (am_at atype), am_zero (am_at atype) n.toNatClampNeg))]) H1 → va_D A0 (ws ++ [(q, .inl (cA (am_at atype), am_zero (am_at atype) n.toNatClampNeg))]) → va_S A0 s.heap H1 locs → W p l e R s mid args below meth c H1 locs (cells + 1) (slots + n.toNatClampNeg) Q (F0 mid (pc + 2) lsc (.ref q :: rest))) :
    W p l e R s mid args below meth c H locs cells slots Q (F0 mid pc lsc (.int n :: rest)) := by
  have ht : (am_tys cA)[am_at atype]? = some (cA (am_at atype), newarray.typeOf atype) := by
    cases atype <;> first | rfl | (exact absurd hat (by decide))
  refine va_newa hx hb harr rfl hK hP hD hS hA (a0 := am_zero (am_at atype) n.toNatClampNeg) (N' := n.toNatClampNeg) ?_ hn rfl ?_ hc1 hc2 hd (fun q cN H1 hKn hP1 hD1 hS1 => ?_)
  · intro cN
    cases atype <;> first | rfl | (exact absurd hat (by decide))
  · cases atype <;> first | (exact absurd hat (by decide)) | (simp only [newarray.typeOf, componentBytes]; omega)
  · have hcN := am_cls_one hKn ht
    subst hcN
    exact kk q H1 hP1 hD1 hS1
theorem am_pcT {x y : Nat} {bb : Bool} {H : Heap} {locs : List Loc} {cells slots : Nat} {lsc : Array Slot} {Q : State → Prop} {st : List Value} (hc : bb = true) (k : W p l e R s mid args below meth c H locs cells slots Q (F0 mid (if bb = true then x else y) lsc st)) : W p l e R s mid args below meth c H locs cells slots Q (F0 mid x lsc st) := by
  rw [if_pos hc] at k; exact k
theorem am_pcF {x y : Nat} {bb : Bool} {H : Heap} {locs : List Loc} {cells slots : Nat} {lsc : Array Slot} {Q : State → Prop} {st : List Value} (hc : ¬ bb = true) (k : W p l e R s mid args below meth c H locs cells slots Q (F0 mid (if bb = true then x else y) lsc st)) : W p l e R s mid args below meth c H locs cells slots Q (F0 mid y lsc st) := by
  rw [if_neg hc] at k; exact k
theorem am_nfw : nativeFrameWords "java/lang/System" "arraycopy" 5 ≤ 20 := by decide +kernel

set_option maxHeartbeats 8000000 in
theorem am_pst_ok {m d pc : Nat} {D : va_G} {A0 : Nat → Prop} {cA : Nat → ClassId} {b : Nat} {h0 : am_H} {ad0 ad : Nat → Nat} {en : am_I} {ls st : List Value} {h : am_H} {t : Nat × List Value × List Value × am_H} {H : Heap} {locs : List Loc} {cells slots : Nat} {lsc : Array Slot} {Q : State → Prop}
    (C0 : am_Ct p R s mid args meth c m d D A0 cA b h0) (hf : am_tab m pc = some en) (hp : am_pst m en pc ls st h = some t) (X0 : am_Dy s m D A0 cA b h0 ad0 ad h H locs cells slots ls lsc st)
    (hrc : cells + t.2.2.2.2.1.1 ≤ R.cells + h.2.1.1) (hrs : slots + t.2.2.2.2.1.2 ≤ R.slots + h.2.1.2)
    (k : ∀ (ad' : Nat → Nat) (H' : Heap) (locs' : List Loc) (cells' slots' : Nat) (lsc' : Array Slot), am_Dy s m D A0 cA b h0 ad0 ad' t.2.2.2 H' locs' cells' slots' t.2.1 lsc' t.2.2.1 → W p l e R s mid args below meth c H' locs' cells' slots' Q (F0 mid t.1 lsc' (t.2.2.1.map (am_cv ad' b)))) :
    W p l e R s mid args below meth c H locs cells slots Q (F0 mid pc lsc (st.map (am_cv ad b))) := by
  obtain ⟨hx, hb, hr, hml, hown, hG, hlocks, hini, hext, hA, hK, hscr, hRf, hRl, htab⟩ := id C0
  obtain ⟨hP, hD, hS, hl, hwh, hwl, hws, hcnt, hle, had⟩ := id X0
  have hL := am_hl_has hl
  have hlz : lsc.size = c.maxLocals := hl.1.trans hml.symm
  obtain ⟨ins, len, ea, eb, ew, ev⟩ := en
  have hdec := am_dec hf
  cases ins
  case iconst n =>
    obtain ⟨hd, hlen, hw⟩ := hdec (fun z => by cases z)
    obtain rfl : len = 1 := am_l1 hlen
    cases hp
    exact lv_iconst hx hb hd rfl (k _ _ _ _ _ _ (X0.stk (am_wi hws)))
  case bipush n =>
    obtain ⟨hd, hlen, hw⟩ := hdec (fun z => by cases z)
    obtain rfl : len = 2 := am_l2 hlen
    cases hp
    exact lv_bipush hx hb hd rfl (k _ _ _ _ _ _ (X0.stk (am_wi hws)))
  case sipush n =>
    obtain ⟨hd, hlen, hw⟩ := hdec (fun z => by cases z)
    obtain rfl : len = 3 := am_l3 hlen
    cases hp
    exact lv_sipush hx hb hd rfl (k _ _ _ _ _ _ (X0.stk (am_wi hws)))
  case lconst n =>
    obtain ⟨hd, hlen, hw⟩ := hdec (fun z => by cases z)
    obtain rfl : len = 1 := am_l1 hlen
    cases hp
    exact lv_lconst hx hb hd rfl (k _ _ _ _ _ _ (X0.stk (am_wj hws)))
  case aconst_null =>
    obtain ⟨hd, hlen, hw⟩ := hdec (fun z => by cases z)
    obtain rfl : len = 1 := am_l1 hlen
    cases hp
    exact lv_null hx hb hd (k _ _ _ _ _ _ (X0.stk (am_wn hws)))
  case ldc i =>
    obtain ⟨hd, hlen, hw⟩ := hdec (fun z => by cases z)
    obtain rfl : len = 2 := am_l2 hlen
    cases ev
    case int x =>
      cases hp
      simp only [am_lkw, decide_eq_true_eq] at hw
      exact lv_ldc hx hb hown (hG _ (am_good_mem hw rfl)) hd (k _ _ _ _ _ _ (X0.stk (am_wi hws)))
    all_goals cases hp
  case ldc2_w i =>
    obtain ⟨hd, hlen, hw⟩ := hdec (fun z => by cases z)
    obtain rfl : len = 3 := am_l3 hlen
    cases ev
    case long x =>
      cases hp
      simp only [am_lkw, decide_eq_true_eq] at hw
      exact lv_ldc2 hx hb hown (hG _ (am_good_mem hw rfl)) hd (k _ _ _ _ _ _ (X0.stk (am_wj hws)))
    all_goals cases hp
  case iload i =>
    obtain ⟨hd, hlen, hw⟩ := hdec (fun z => by cases z)
    obtain rfl : len = 2 := am_l2 hlen
    obtain ⟨st', h1, rfl⟩ := am_S_some hp
    obtain ⟨x, h2, rfl⟩ := am_ldi_some h1
    exact lv_iload hx hb hd (hl.2.2.2 _ _ h2 (fun z => by cases z)) (k _ _ _ _ _ _ (X0.stk (am_wi hws)))
  case iload_n i =>
    obtain ⟨hd, hlen, hw⟩ := hdec (fun z => by cases z)
    obtain rfl : len = 1 := am_l1 hlen
    obtain ⟨st', h1, rfl⟩ := am_S_some hp
    obtain ⟨x, h2, rfl⟩ := am_ldi_some h1
    exact lv_iload_n hx hb hd rfl (hl.2.2.2 _ _ h2 (fun z => by cases z)) (k _ _ _ _ _ _ (X0.stk (am_wi hws)))
  case lload i =>
    obtain ⟨hd, hlen, hw⟩ := hdec (fun z => by cases z)
    obtain rfl : len = 2 := am_l2 hlen
    obtain ⟨st', h1, rfl⟩ := am_S_some hp
    obtain ⟨x, h2, rfl⟩ := am_ldl_some h1
    exact lv_lload hx hb hd (hl.2.2.2 _ _ h2 (fun z => by cases z)) (k _ _ _ _ _ _ (X0.stk (am_wj hws)))
  case lload_n i =>
    obtain ⟨hd, hlen, hw⟩ := hdec (fun z => by cases z)
    obtain rfl : len = 1 := am_l1 hlen
    obtain ⟨st', h1, rfl⟩ := am_S_some hp
    obtain ⟨x, h2, rfl⟩ := am_ldl_some h1
    exact lv_lload_n hx hb hd rfl (hl.2.2.2 _ _ h2 (fun z => by cases z)) (k _ _ _ _ _ _ (X0.stk (am_wj hws)))
  case aload i =>
    obtain ⟨hd, hlen, hw⟩ := hdec (fun z => by cases z)
    obtain rfl : len = 2 := am_l2 hlen
    obtain ⟨st', h1, rfl⟩ := am_S_some hp
    rcases am_lda_some h1 with ⟨x, h2, rfl⟩ | ⟨h2, rfl⟩ | ⟨h2, rfl⟩
    · exact lv_aload hx hb hd (hl.2.2.2 _ _ h2 (fun z => by cases z)) (k _ _ _ _ _ _ (X0.stk (am_wr (hwl _ (List.mem_of_getElem? h2)) hws)))
    · exact lv_aloadN hx hb hd (hl.2.2.2 _ _ h2 (fun z => by cases z)) (k _ _ _ _ _ _ (X0.stk (am_wn hws)))
    · exact lv_aload hx hb hd (hl.2.2.2 _ _ h2 (fun z => by cases z)) (k _ _ _ _ _ _ (X0.stk (am_wz hws)))
  case aload_n i =>
    obtain ⟨hd, hlen, hw⟩ := hdec (fun z => by cases z)
    obtain rfl : len = 1 := am_l1 hlen
    obtain ⟨st', h1, rfl⟩ := am_S_some hp
    rcases am_lda_some h1 with ⟨x, h2, rfl⟩ | ⟨h2, rfl⟩ | ⟨h2, rfl⟩
    · exact lv_aload_n hx hb hd rfl (hl.2.2.2 _ _ h2 (fun z => by cases z)) (k _ _ _ _ _ _ (X0.stk (am_wr (hwl _ (List.mem_of_getElem? h2)) hws)))
    · exact lv_aload_nN hx hb hd rfl (hl.2.2.2 _ _ h2 (fun z => by cases z)) (k _ _ _ _ _ _ (X0.stk (am_wn hws)))
    · exact lv_aload_n hx hb hd rfl (hl.2.2.2 _ _ h2 (fun z => by cases z)) (k _ _ _ _ _ _ (X0.stk (am_wz hws)))
  case istore i =>
    obtain ⟨hd, hlen, hw⟩ := hdec (fun z => by cases z)
    obtain rfl : len = 2 := am_l2 hlen
    obtain ⟨q, h1, rfl⟩ := am_SL_some hp
    obtain ⟨x, r, rfl, hn, rfl⟩ := am_sti_some h1
    exact lv_istore hx hb hd hL hn rfl (fun ls' hl' => k _ _ _ _ _ _ (X0.loc (am_hl_s1 hl hl') (am_wl_s1 hwl trivial) (am_wt hws)))
  case lstore i =>
    obtain ⟨hd, hlen, hw⟩ := hdec (fun z => by cases z)
    obtain rfl : len = 2 := am_l2 hlen
    obtain ⟨q, h1, rfl⟩ := am_SL_some hp
    obtain ⟨x, r, rfl, hn, rfl⟩ := am_stl_some h1
    exact lv_lstore hx hb hd hL hn rfl (fun ls' hl' => k _ _ _ _ _ _ (X0.loc (am_hl_s2 hl hl') (am_wl_s2 hwl trivial) (am_wt hws)))
  case astore i =>
    obtain ⟨hd, hlen, hw⟩ := hdec (fun z => by cases z)
    obtain rfl : len = 2 := am_l2 hlen
    obtain ⟨q, h1, rfl⟩ := am_SL_some hp
    rcases am_sta_some h1 with ⟨x, r, rfl, hn, rfl⟩ | ⟨r, rfl, hn, rfl⟩
    · exact lv_astore hx hb hd hL hn rfl (fun ls' hl' => k _ _ _ _ _ _ (X0.loc (am_hl_s1 (v := .ref x) hl hl') (am_wl_s1 hwl (hws _ List.mem_cons_self)) (am_wt hws)))
    · exact lv_astoreN hx hb hd hL hn rfl (fun ls' hl' => k _ _ _ _ _ _ (X0.loc (am_hl_s1 (v := .null) hl hl') (am_wl_s1 hwl trivial) (am_wt hws)))
  case istore_n i =>
    obtain ⟨hd, hlen, hw⟩ := hdec (fun z => by cases z)
    obtain rfl : len = 1 := am_l1 hlen
    obtain ⟨q, h1, rfl⟩ := am_SL_some hp
    obtain ⟨x, r, rfl, hn, rfl⟩ := am_sti_some h1
    exact lv_istore_n hx hb hd rfl hL hn rfl (fun ls' hl' => k _ _ _ _ _ _ (X0.loc (am_hl_s1 hl hl') (am_wl_s1 hwl trivial) (am_wt hws)))
  case lstore_n i =>
    obtain ⟨hd, hlen, hw⟩ := hdec (fun z => by cases z)
    obtain rfl : len = 1 := am_l1 hlen
    obtain ⟨q, h1, rfl⟩ := am_SL_some hp
    obtain ⟨x, r, rfl, hn, rfl⟩ := am_stl_some h1
    exact lv_lstore_n hx hb hd rfl hL hn rfl (fun ls' hl' => k _ _ _ _ _ _ (X0.loc (am_hl_s2 hl hl') (am_wl_s2 hwl trivial) (am_wt hws)))
  case astore_n i =>
    obtain ⟨hd, hlen, hw⟩ := hdec (fun z => by cases z)
    obtain rfl : len = 1 := am_l1 hlen
    obtain ⟨q, h1, rfl⟩ := am_SL_some hp
    rcases am_sta_some h1 with ⟨x, r, rfl, hn, rfl⟩ | ⟨r, rfl, hn, rfl⟩
    · exact lv_astore_n hx hb hd rfl hL hn rfl (fun ls' hl' => k _ _ _ _ _ _ (X0.loc (am_hl_s1 (v := .ref x) hl hl') (am_wl_s1 hwl (hws _ List.mem_cons_self)) (am_wt hws)))
    · exact lv_astore_nN hx hb hd rfl hL hn rfl (fun ls' hl' => k _ _ _ _ _ _ (X0.loc (am_hl_s1 (v := .null) hl hl') (am_wl_s1 hwl trivial) (am_wt hws)))
  case iinc i n =>
    obtain ⟨hd, hlen, hw⟩ := hdec (fun z => by cases z)
    obtain rfl : len = 3 := am_l3 hlen
    dsimp only [am_pst] at hp
    split at hp
    next x hxi =>
      split at hp
      next hn =>
        cases hp
        have hmem : (i, Value.int x) ∈ am_lv ad b ls := am_lv_mem.mpr ⟨.int x, hxi, (fun z => by cases z), rfl⟩
        obtain ⟨j, hj⟩ := List.getElem?_of_mem hmem
        exact lv_iinc hx hb hd hL hj rfl hn rfl (fun ls' hl' => k _ _ _ _ _ _ (X0.loc (am_hl_s1 (v := .int _) hl hl') (am_wl_s1 hwl trivial) hws))
      next => cases hp
    next => cases hp
  case iadd =>
    obtain ⟨hd, hlen, hw⟩ := hdec (fun z => by cases z)
    obtain rfl : len = 1 := am_l1 hlen
    obtain ⟨st', h1, rfl⟩ := am_S_some hp
    obtain ⟨x, y, r, rfl, rfl⟩ := am_ii_some h1
    exact lv_iadd hx hb hd (k _ _ _ _ _ _ (X0.stk (am_wi (am_wt (am_wt hws)))))
  case isub =>
    obtain ⟨hd, hlen, hw⟩ := hdec (fun z => by cases z)
    obtain rfl : len = 1 := am_l1 hlen
    obtain ⟨st', h1, rfl⟩ := am_S_some hp
    obtain ⟨x, y, r, rfl, rfl⟩ := am_ii_some h1
    exact lv_isub hx hb hd (k _ _ _ _ _ _ (X0.stk (am_wi (am_wt (am_wt hws)))))
  case imul =>
    obtain ⟨hd, hlen, hw⟩ := hdec (fun z => by cases z)
    obtain rfl : len = 1 := am_l1 hlen
    obtain ⟨st', h1, rfl⟩ := am_S_some hp
    obtain ⟨x, y, r, rfl, rfl⟩ := am_ii_some h1
    exact lv_imul hx hb hd (k _ _ _ _ _ _ (X0.stk (am_wi (am_wt (am_wt hws)))))
  case iand =>
    obtain ⟨hd, hlen, hw⟩ := hdec (fun z => by cases z)
    obtain rfl : len = 1 := am_l1 hlen
    obtain ⟨st', h1, rfl⟩ := am_S_some hp
    obtain ⟨x, y, r, rfl, rfl⟩ := am_ii_some h1
    exact lv_iand hx hb hd (k _ _ _ _ _ _ (X0.stk (am_wi (am_wt (am_wt hws)))))
  case ishr =>
    obtain ⟨hd, hlen, hw⟩ := hdec (fun z => by cases z)
    obtain rfl : len = 1 := am_l1 hlen
    obtain ⟨st', h1, rfl⟩ := am_S_some hp
    obtain ⟨x, y, r, rfl, rfl⟩ := am_ii_some h1
    exact lv_ishr hx hb hd (k _ _ _ _ _ _ (X0.stk (am_wi (am_wt (am_wt hws)))))
  case idiv =>
    obtain ⟨hd, hlen, hw⟩ := hdec (fun z => by cases z)
    obtain rfl : len = 1 := am_l1 hlen
    obtain ⟨st', h1, rfl⟩ := am_S_some hp
    obtain ⟨x, y, r, hne, rfl, rfl⟩ := am_iiz_some h1
    exact lv_idiv hx hb hd hne (k _ _ _ _ _ _ (X0.stk (am_wi (am_wt (am_wt hws)))))
  case irem =>
    obtain ⟨hd, hlen, hw⟩ := hdec (fun z => by cases z)
    obtain rfl : len = 1 := am_l1 hlen
    obtain ⟨st', h1, rfl⟩ := am_S_some hp
    obtain ⟨x, y, r, hne, rfl, rfl⟩ := am_iiz_some h1
    exact lv_irem hx hb hd hne (k _ _ _ _ _ _ (X0.stk (am_wi (am_wt (am_wt hws)))))
  case ladd =>
    obtain ⟨hd, hlen, hw⟩ := hdec (fun z => by cases z)
    obtain rfl : len = 1 := am_l1 hlen
    obtain ⟨st', h1, rfl⟩ := am_S_some hp
    obtain ⟨x, y, r, rfl, rfl⟩ := am_ll_some h1
    exact lv_ladd hx hb hd (k _ _ _ _ _ _ (X0.stk (am_wj (am_wt (am_wt hws)))))
  case lsub =>
    obtain ⟨hd, hlen, hw⟩ := hdec (fun z => by cases z)
    obtain rfl : len = 1 := am_l1 hlen
    obtain ⟨st', h1, rfl⟩ := am_S_some hp
    obtain ⟨x, y, r, rfl, rfl⟩ := am_ll_some h1
    exact lv_lsub hx hb hd (k _ _ _ _ _ _ (X0.stk (am_wj (am_wt (am_wt hws)))))
  case lmul =>
    obtain ⟨hd, hlen, hw⟩ := hdec (fun z => by cases z)
    obtain rfl : len = 1 := am_l1 hlen
    obtain ⟨st', h1, rfl⟩ := am_S_some hp
    obtain ⟨x, y, r, rfl, rfl⟩ := am_ll_some h1
    exact lv_lmul hx hb hd (k _ _ _ _ _ _ (X0.stk (am_wj (am_wt (am_wt hws)))))
  case land =>
    obtain ⟨hd, hlen, hw⟩ := hdec (fun z => by cases z)
    obtain rfl : len = 1 := am_l1 hlen
    obtain ⟨st', h1, rfl⟩ := am_S_some hp
    obtain ⟨x, y, r, rfl, rfl⟩ := am_ll_some h1
    exact lv_land hx hb hd (k _ _ _ _ _ _ (X0.stk (am_wj (am_wt (am_wt hws)))))
  case lor =>
    obtain ⟨hd, hlen, hw⟩ := hdec (fun z => by cases z)
    obtain rfl : len = 1 := am_l1 hlen
    obtain ⟨st', h1, rfl⟩ := am_S_some hp
    obtain ⟨x, y, r, rfl, rfl⟩ := am_ll_some h1
    exact lv_lor hx hb hd (k _ _ _ _ _ _ (X0.stk (am_wj (am_wt (am_wt hws)))))
  case lxor =>
    obtain ⟨hd, hlen, hw⟩ := hdec (fun z => by cases z)
    obtain rfl : len = 1 := am_l1 hlen
    obtain ⟨st', h1, rfl⟩ := am_S_some hp
    obtain ⟨x, y, r, rfl, rfl⟩ := am_ll_some h1
    exact lv_lxor hx hb hd (k _ _ _ _ _ _ (X0.stk (am_wj (am_wt (am_wt hws)))))
  case ldiv =>
    obtain ⟨hd, hlen, hw⟩ := hdec (fun z => by cases z)
    obtain rfl : len = 1 := am_l1 hlen
    obtain ⟨st', h1, rfl⟩ := am_S_some hp
    obtain ⟨x, y, r, hne, rfl, rfl⟩ := am_llz_some h1
    exact lv_ldiv hx hb hd hne (k _ _ _ _ _ _ (X0.stk (am_wj (am_wt (am_wt hws)))))
  case lrem =>
    obtain ⟨hd, hlen, hw⟩ := hdec (fun z => by cases z)
    obtain rfl : len = 1 := am_l1 hlen
    obtain ⟨st', h1, rfl⟩ := am_S_some hp
    obtain ⟨x, y, r, hne, rfl, rfl⟩ := am_llz_some h1
    exact lv_lrem hx hb hd hne (k _ _ _ _ _ _ (X0.stk (am_wj (am_wt (am_wt hws)))))
  case lshl =>
    obtain ⟨hd, hlen, hw⟩ := hdec (fun z => by cases z)
    obtain rfl : len = 1 := am_l1 hlen
    obtain ⟨st', h1, rfl⟩ := am_S_some hp
    obtain ⟨x, y, r, rfl, rfl⟩ := am_li_some h1
    exact lv_lshl hx hb hd rfl (k _ _ _ _ _ _ (X0.stk (am_wj (am_wt (am_wt hws)))))
  case lushr =>
    obtain ⟨hd, hlen, hw⟩ := hdec (fun z => by cases z)
    obtain rfl : len = 1 := am_l1 hlen
    obtain ⟨st', h1, rfl⟩ := am_S_some hp
    obtain ⟨x, y, r, rfl, rfl⟩ := am_li_some h1
    exact lv_lushr hx hb hd rfl (k _ _ _ _ _ _ (X0.stk (am_wj (am_wt (am_wt hws)))))
  case lcmp =>
    obtain ⟨hd, hlen, hw⟩ := hdec (fun z => by cases z)
    obtain rfl : len = 1 := am_l1 hlen
    obtain ⟨st', h1, rfl⟩ := am_S_some hp
    obtain ⟨x, y, r, rfl, rfl⟩ := am_lcm_some h1
    exact W.lcmp hx hb hd (k _ _ _ _ _ _ (X0.stk (am_wi (am_wt (am_wt hws)))))
  case ineg =>
    obtain ⟨hd, hlen, hw⟩ := hdec (fun z => by cases z)
    obtain rfl : len = 1 := am_l1 hlen
    obtain ⟨st', h1, rfl⟩ := am_S_some hp
    obtain ⟨x, r, rfl, rfl⟩ := am_un_some h1
    exact lv_ineg hx hb hd (k _ _ _ _ _ _ (X0.stk (am_wi (am_wt hws))))
  case i2l =>
    obtain ⟨hd, hlen, hw⟩ := hdec (fun z => by cases z)
    obtain rfl : len = 1 := am_l1 hlen
    obtain ⟨st', h1, rfl⟩ := am_S_some hp
    obtain ⟨x, r, rfl, rfl⟩ := am_un_some h1
    exact lv_i2l hx hb hd rfl (k _ _ _ _ _ _ (X0.stk (am_wj (am_wt hws))))
  case i2c =>
    obtain ⟨hd, hlen, hw⟩ := hdec (fun z => by cases z)
    obtain rfl : len = 1 := am_l1 hlen
    obtain ⟨st', h1, rfl⟩ := am_S_some hp
    obtain ⟨x, r, rfl, rfl⟩ := am_un_some h1
    exact lv_i2c hx hb hd rfl (k _ _ _ _ _ _ (X0.stk (am_wi (am_wt hws))))
  case l2i =>
    obtain ⟨hd, hlen, hw⟩ := hdec (fun z => by cases z)
    obtain rfl : len = 1 := am_l1 hlen
    obtain ⟨st', h1, rfl⟩ := am_S_some hp
    obtain ⟨x, r, rfl, rfl⟩ := am_unl_some h1
    exact lv_l2i hx hb hd rfl (k _ _ _ _ _ _ (X0.stk (am_wi (am_wt hws))))
  case dup =>
    obtain ⟨hd, hlen, hw⟩ := hdec (fun z => by cases z)
    obtain rfl : len = 1 := am_l1 hlen
    dsimp only [am_pst] at hp
    split at hp
    next v r =>
      split at hp
      next hc =>
        cases hp
        exact lv_dup hx hb hd (by rw [am_cv_cat]; exact hc) (k _ _ _ _ _ _ (X0.stk (am_wc (hws _ List.mem_cons_self) hws)))
      next => cases hp
    next => cases hp
  case dup2 =>
    obtain ⟨hd, hlen, hw⟩ := hdec (fun z => by cases z)
    obtain rfl : len = 1 := am_l1 hlen
    dsimp only [am_pst] at hp
    split at hp
    next v w r =>
      split at hp
      next hc =>
        cases hp
        exact lv_dup2_11 hx hb hd (by rw [am_cv_cat]; exact hc.1) (by rw [am_cv_cat]; exact hc.2) (k _ _ _ _ _ _ (X0.stk (am_wc (hws _ List.mem_cons_self) (am_wc (am_wt hws _ List.mem_cons_self) hws))))
      next => cases hp
    next => cases hp
  case pop =>
    obtain ⟨hd, hlen, hw⟩ := hdec (fun z => by cases z)
    obtain rfl : len = 1 := am_l1 hlen
    dsimp only [am_pst] at hp
    split at hp
    next v r =>
      split at hp
      next hc =>
        cases hp
        exact lv_pop hx hb hd (by rw [am_cv_cat]; exact hc) (k _ _ _ _ _ _ (X0.stk (am_wt hws)))
      next => cases hp
    next => cases hp
  case goto off =>
    obtain ⟨hd, hlen, hw⟩ := hdec (fun z => by cases z)
    obtain rfl : len = 3 := am_l3 hlen
    obtain ⟨h1, rfl⟩ := am_jmp_some hp
    exact lv_goto hx hb hd (Int.toNat_of_nonneg h1).symm (k _ _ _ _ _ _ X0)
  case ifCond cnd off =>
    obtain ⟨hd, hlen, hw⟩ := hdec (fun z => by cases z)
    obtain rfl : len = 3 := am_l3 hlen
    dsimp only [am_pst] at hp
    split at hp
    next x r =>
      obtain ⟨h1, rfl⟩ := am_br_some hp
      cases cnd
      case eq => exact lv_if_eq hx hb hd (Int.toNat_of_nonneg h1).symm (fun q => am_pcT (am_cc_eq.mpr q) (k _ _ _ _ _ _ (X0.stk (am_wt hws)))) (fun q => am_pcF (fun z => q (am_cc_eq.mp z)) (k _ _ _ _ _ _ (X0.stk (am_wt hws))))
      case ne => exact lv_if_ne hx hb hd (Int.toNat_of_nonneg h1).symm (fun q => am_pcT (am_cc_ne.mpr q) (k _ _ _ _ _ _ (X0.stk (am_wt hws)))) (fun q => am_pcF (fun z => am_cc_ne.mp z q) (k _ _ _ _ _ _ (X0.stk (am_wt hws))))
      case lt => exact lv_if_lt hx hb hd (Int.toNat_of_nonneg h1).symm (fun q => am_pcT (am_cc_lt.mpr q) (k _ _ _ _ _ _ (X0.stk (am_wt hws)))) (fun q => am_pcF (fun z => q (am_cc_lt.mp z)) (k _ _ _ _ _ _ (X0.stk (am_wt hws))))
      case ge => exact lv_if_ge hx hb hd (Int.toNat_of_nonneg h1).symm (fun q => am_pcT (am_cc_ge.mpr q) (k _ _ _ _ _ _ (X0.stk (am_wt hws)))) (fun q => am_pcF (fun z => q (am_cc_ge.mp z)) (k _ _ _ _ _ _ (X0.stk (am_wt hws))))
      case gt => exact lv_if_gt hx hb hd (Int.toNat_of_nonneg h1).symm (fun q => am_pcT (am_cc_gt.mpr q) (k _ _ _ _ _ _ (X0.stk (am_wt hws)))) (fun q => am_pcF (fun z => q (am_cc_gt.mp z)) (k _ _ _ _ _ _ (X0.stk (am_wt hws))))
      case le => exact lv_if_le hx hb hd (Int.toNat_of_nonneg h1).symm (fun q => am_pcT (am_cc_le.mpr q) (k _ _ _ _ _ _ (X0.stk (am_wt hws)))) (fun q => am_pcF (fun z => q (am_cc_le.mp z)) (k _ _ _ _ _ _ (X0.stk (am_wt hws))))
    next => cases hp
  case if_icmp cnd off =>
    obtain ⟨hd, hlen, hw⟩ := hdec (fun z => by cases z)
    obtain rfl : len = 3 := am_l3 hlen
    dsimp only [am_pst] at hp
    split at hp
    next y x r =>
      obtain ⟨h1, rfl⟩ := am_br_some hp
      cases cnd
      case eq => exact lv_icmp_eq hx hb hd (Int.toNat_of_nonneg h1).symm (fun q => am_pcT (am_cc_eq.mpr q) (k _ _ _ _ _ _ (X0.stk (am_wt (am_wt hws))))) (fun q => am_pcF (fun z => q (am_cc_eq.mp z)) (k _ _ _ _ _ _ (X0.stk (am_wt (am_wt hws)))))
      case ne => exact lv_icmp_ne hx hb hd (Int.toNat_of_nonneg h1).symm (fun q => am_pcT (am_cc_ne.mpr q) (k _ _ _ _ _ _ (X0.stk (am_wt (am_wt hws))))) (fun q => am_pcF (fun z => am_cc_ne.mp z q) (k _ _ _ _ _ _ (X0.stk (am_wt (am_wt hws)))))
      case lt => exact lv_icmp_lt hx hb hd (Int.toNat_of_nonneg h1).symm (fun q => am_pcT (am_cc_lt.mpr q) (k _ _ _ _ _ _ (X0.stk (am_wt (am_wt hws))))) (fun q => am_pcF (fun z => q (am_cc_lt.mp z)) (k _ _ _ _ _ _ (X0.stk (am_wt (am_wt hws)))))
      case ge => exact lv_icmp_ge hx hb hd (Int.toNat_of_nonneg h1).symm (fun q => am_pcT (am_cc_ge.mpr q) (k _ _ _ _ _ _ (X0.stk (am_wt (am_wt hws))))) (fun q => am_pcF (fun z => q (am_cc_ge.mp z)) (k _ _ _ _ _ _ (X0.stk (am_wt (am_wt hws)))))
      case gt => exact lv_icmp_gt hx hb hd (Int.toNat_of_nonneg h1).symm (fun q => am_pcT (am_cc_gt.mpr q) (k _ _ _ _ _ _ (X0.stk (am_wt (am_wt hws))))) (fun q => am_pcF (fun z => q (am_cc_gt.mp z)) (k _ _ _ _ _ _ (X0.stk (am_wt (am_wt hws)))))
      case le => exact lv_icmp_le hx hb hd (Int.toNat_of_nonneg h1).symm (fun q => am_pcT (am_cc_le.mpr q) (k _ _ _ _ _ _ (X0.stk (am_wt (am_wt hws))))) (fun q => am_pcF (fun z => q (am_cc_le.mp z)) (k _ _ _ _ _ _ (X0.stk (am_wt (am_wt hws)))))
    next => cases hp
  case ifnull off =>
    obtain ⟨hd, hlen, hw⟩ := hdec (fun z => by cases z)
    obtain rfl : len = 3 := am_l3 hlen
    dsimp only [am_pst] at hp
    split at hp
    next r =>
      obtain ⟨h1, rfl⟩ := am_jmp_some hp
      exact lv_ifnullN hx hb hd (Int.toNat_of_nonneg h1).symm (k _ _ _ _ _ _ (X0.stk (am_wt hws)))
    next x r =>
      cases hp
      exact lv_ifnull hx hb hd (k _ _ _ _ _ _ (X0.stk (am_wt hws)))
    next => cases hp
  case tableswitch dflt lo hi offs =>
    obtain ⟨hd, hlen, hw⟩ := hdec (fun z => by cases z)
    dsimp only [am_pst] at hp
    split at hp
    next x r =>
      split at hp
      next hc =>
        obtain ⟨h1, rfl⟩ := am_jmp_some hp
        exact lv_tableOut hx hb hd hc (Int.toNat_of_nonneg h1).symm (k _ _ _ _ _ _ (X0.stk (am_wt hws)))
      next hc =>
        split at hp
        next off ho =>
          obtain ⟨h1, rfl⟩ := am_jmp_some hp
          exact lv_tableIn hx hb hd (fun q => hc (Or.inl q)) (fun q => hc (Or.inr q)) ho (Int.toNat_of_nonneg h1).symm (k _ _ _ _ _ _ (X0.stk (am_wt hws)))
        next => cases hp
    next => cases hp
  case lookupswitch dflt ps =>
    obtain ⟨hd, hlen, hw⟩ := hdec (fun z => by cases z)
    dsimp only [am_pst] at hp
    split at hp
    next x r =>
      split at hp
      next hc =>
        obtain ⟨h1, rfl⟩ := am_jmp_some hp
        exact lv_lookup hx hb hd hc rfl (Int.toNat_of_nonneg h1).symm (k _ _ _ _ _ _ (X0.stk (am_wt hws)))
      next => cases hp
    next => cases hp
  case getfield i =>
    obtain ⟨hd, hlen, hw⟩ := hdec (fun z => by cases z)
    obtain rfl : len = 3 := am_l3 hlen
    obtain ⟨st', h1, rfl⟩ := am_S_some hp
    obtain ⟨q, r, fs, v, rfl, hq, hv, rfl⟩ := am_get_some h1
    simp only [am_lkw, Bool.and_eq_true, decide_eq_true_eq] at hw
    obtain ⟨⟨hw1, hw2⟩, hw3⟩ := hw
    have hq2 := am_ws_at (ad := ad) (b := b) (cA := cA) hq
    have hv2 : (fs.map (am_cv ad b))[eb]? = some (am_cv ad b v) := by rw [List.getElem?_map, hv]; rfl
    have hwv : am_wv h.1.length v := hwh _ (List.mem_of_getElem? hq) v (List.mem_of_getElem? hv)
    unfold am_fw at hw1
    split at hw1
    next => exact va_get hx hb hG (am_uws ea hw2) hown hK hP q hq2 (am_cl_at hw2) eb hw3 (hG _ (am_good_mem hw1 rfl)) (fun _ z => z) hv2 hd (k _ _ _ _ _ _ (X0.stk (am_wc hwv (am_wt hws))))
    next => exact va_getN hx hb hG (am_uws ea hw2) hown hK hP q hq2 (am_cl_at hw2) eb hw3 (va_Nw.use rfl (hext.1 _ (am_nw_mem hw1 rfl))) (fun _ z => z) hv2 hd (k _ _ _ _ _ _ (X0.stk (am_wc hwv (am_wt hws))))
  case putfield i =>
    obtain ⟨hd, hlen, hw⟩ := hdec (fun z => by cases z)
    obtain rfl : len = 3 := am_l3 hlen
    obtain ⟨q0, h1, rfl⟩ := am_SH_some hp
    obtain ⟨v, q, r, fs, rfl, hq, hlt, hn, hfit, rfl⟩ := am_put_some h1
    simp only [am_lkw, Bool.and_eq_true, Bool.or_eq_true, decide_eq_true_eq] at hw
    obtain ⟨⟨⟨hw1, hw2⟩, hw3⟩, hw4⟩ := hw
    have hq2 := am_ws_at (ad := ad) (b := b) (cA := cA) hq
    obtain ⟨hn2, hfit2⟩ := am_nf ad b hn hfit
    have hwe : am_we h.1.length (.inr (ea, fs.set eb v)) := fun x hx => by
      rcases List.mem_or_eq_of_mem_set hx with hx | hx
      · exact hwh _ (List.mem_of_getElem? hq) x hx
      · rw [hx]; exact hws _ List.mem_cons_self
    have hll : eb < (fs.map (am_cv ad b)).length := by rw [List.length_map]; exact hlt
    have kk : ∀ (H1 : Heap) (locs1 : List Loc), va_P D vwCl ((am_ws ad b cA h.1).set q (ad q, .inr (ea, (fs.map (am_cv ad b)).set eb (am_cv ad b v)))) H1 → va_D A0 ((am_ws ad b cA h.1).set q (ad q, .inr (ea, (fs.map (am_cv ad b)).set eb (am_cv ad b v)))) → va_S A0 s.heap H1 locs1 → W p l e R s mid args below meth c H1 locs1 cells slots Q (F0 mid (pc + 3) lsc (r.map (am_cv ad b))) := by
      intro H1 locs1 hP1 hD1 hS1
      rw [← List.map_set] at hP1 hD1
      exact k _ _ _ _ _ _ (X0.mem hwe hP1 hD1 hS1 (am_wt (am_wt hws)))
    rcases hw4 with hw4 | ⟨⟨⟨hw5, hw6⟩, hw7⟩, hw8⟩
    · unfold am_fw at hw1
      split at hw1
      next => exact va_put hx hb hG (am_uws ea hw2) (am_ft ea) (am_ft_ok ea hw2) (am_nm_ok ea hw2) hown hK hP hD hS q hq2 (am_cl_at hw2) eb hw3 (hG _ (am_good_mem hw1 rfl)) (fun _ z => z) hw4 (am_ft_ok ea hw2 eb hw3) hn2 hfit2 hll hd kk
      next => exact va_putN hx hb hG (am_uws ea hw2) (am_ft ea) (am_ft_ok ea hw2) (am_nm_ok ea hw2) hown hK hP hD hS q hq2 (am_cl_at hw2) eb hw3 (va_Nw.use rfl (hext.1 _ (am_nw_mem hw1 rfl))) (fun _ z => z) hw4 (am_ft_ok ea hw2 eb hw3) hn2 hfit2 hll hd kk
    · unfold am_fw at hw1
      rw [if_pos hw8] at hw1
      exact va_putF hx hb hG (am_uws ea hw2) (am_ft ea) (am_ft_ok ea hw2) (am_nm_ok ea hw2) hown hK hP hD hS q hq2 (am_cl_at hw2) eb hw3 (hG _ (am_good_mem hw1 rfl)) (fun _ z => z) hw7 (hini hw5) hw6 (am_ft_ok ea hw2 eb hw3) hn2 hfit2 hll hd kk
  case iaload =>
    obtain ⟨hd, hlen, hw⟩ := hdec (fun z => by cases z)
    obtain rfl : len = 1 := am_l1 hlen
    dsimp only [am_pst] at hp
    split at hp
    next h00 =>
      obtain ⟨st', h1, rfl⟩ := am_S_some hp
      obtain ⟨i, r, rfl, hi, rfl⟩ := am_sld_some h1
      obtain ⟨hX, hbl, hbA⟩ := hscr
      have e9 : h0.2.2.2 i.toNatClampNeg = h.2.2.2 i.toNatClampNeg := by rw [hcnt.2.2]
      rw [hcnt.2.2] at hi
      refine va_sld hx hb hX hbl hbA hS (am_ix_in hi) hd ?_
      rw [e9]
      exact k _ _ _ _ _ _ (X0.stk (am_wi (am_wt (am_wt hws))))
    next =>
      obtain ⟨st', h1, rfl⟩ := am_S_some hp
      obtain ⟨i, q, r, n, f, rfl, hq, hi, rfl⟩ := am_ald_some h1
      exact va_iald hx hb hK hP q 0 (am_ws_at hq) rfl (am_ix_in hi) hd (k _ _ _ _ _ _ (X0.stk (am_wi (am_wt (am_wt hws)))))
  case baload =>
    obtain ⟨hd, hlen, hw⟩ := hdec (fun z => by cases z)
    obtain rfl : len = 1 := am_l1 hlen
    obtain ⟨st', h1, rfl⟩ := am_S_some hp
    obtain ⟨i, q, r, n, f, rfl, hq, hi, rfl⟩ := am_ald_some h1
    exact va_zald hx hb hK hP q 2 (am_ws_at hq) rfl (am_ix_in hi) hd (k _ _ _ _ _ _ (X0.stk (am_wi (am_wt (am_wt hws)))))
  case caload =>
    obtain ⟨hd, hlen, hw⟩ := hdec (fun z => by cases z)
    obtain rfl : len = 1 := am_l1 hlen
    obtain ⟨st', h1, rfl⟩ := am_S_some hp
    obtain ⟨i, q, r, n, f, rfl, hq, hi, rfl⟩ := am_ald_some h1
    exact va_cald hx hb hK hP q 1 (am_ws_at hq) rfl (am_ix_in hi) hd (k _ _ _ _ _ _ (X0.stk (am_wi (am_wt (am_wt hws)))))
  case laload =>
    obtain ⟨hd, hlen, hw⟩ := hdec (fun z => by cases z)
    obtain rfl : len = 1 := am_l1 hlen
    obtain ⟨st', h1, rfl⟩ := am_S_some hp
    obtain ⟨i, q, r, n, f, rfl, hq, hi, rfl⟩ := am_aldl_some h1
    exact va_lald hx hb hK hP q 3 (am_ws_at hq) rfl (am_ix_in hi) hd (k _ _ _ _ _ _ (X0.stk (am_wj (am_wt (am_wt hws)))))
  case aaload =>
    obtain ⟨hd, hlen, hw⟩ := hdec (fun z => by cases z)
    obtain rfl : len = 1 := am_l1 hlen
    obtain ⟨st', h1, rfl⟩ := am_S_some hp
    obtain ⟨i, q, r, n, f, rfl, hq, hi, rfl⟩ := am_aldr_some h1
    have hwf : am_wv h.1.length (va_rf (f i.toNatClampNeg)) := by
      cases hfi : f i.toNatClampNeg with
      | none => trivial
      | some z => exact hwh _ (List.mem_of_getElem? hq) _ _ hfi
    refine va_aldq hx hb hK hP q 4 (am_ws_at hq) rfl (am_ix_in hi) hd ?_
    have e2 : va_rf ((f i.toNatClampNeg).map ad) = am_cv ad b (va_rf (f i.toNatClampNeg)) := by cases f i.toNatClampNeg <;> rfl
    rw [e2]
    exact k _ _ _ _ _ _ (X0.stk (am_wc hwf (am_wt (am_wt hws))))
  case iastore =>
    obtain ⟨hd, hlen, hw⟩ := hdec (fun z => by cases z)
    obtain rfl : len = 1 := am_l1 hlen
    obtain ⟨q0, h1, rfl⟩ := am_SH_some hp
    obtain ⟨x, i, q, r, n, f, rfl, hq, hi, rfl⟩ := am_asi_some h1
    exact va_iast hx hb hK hP hD hS q 0 (am_ws_at hq) rfl (am_ix_in hi) hd (fun H1 locs1 hP1 hD1 hS1 => k _ _ _ _ _ _ (X0.mem (e := .inl (0, n, .inl _)) trivial hP1 hD1 hS1 (am_wt (am_wt (am_wt hws)))))
  case bastore =>
    obtain ⟨hd, hlen, hw⟩ := hdec (fun z => by cases z)
    obtain rfl : len = 1 := am_l1 hlen
    obtain ⟨q0, h1, rfl⟩ := am_SH_some hp
    obtain ⟨x, i, q, r, n, f, rfl, hq, hi, rfl⟩ := am_ast_some h1
    exact va_zast hx hb hK hP hD hS q 2 (am_ws_at hq) rfl (am_ix_in hi) hd (fun H1 locs1 hP1 hD1 hS1 => k _ _ _ _ _ _ (X0.mem (e := .inl (2, n, .inl _)) trivial hP1 hD1 hS1 (am_wt (am_wt (am_wt hws)))))
  case castore =>
    obtain ⟨hd, hlen, hw⟩ := hdec (fun z => by cases z)
    obtain rfl : len = 1 := am_l1 hlen
    obtain ⟨q0, h1, rfl⟩ := am_SH_some hp
    obtain ⟨x, i, q, r, n, f, rfl, hq, hi, rfl⟩ := am_ast_some h1
    exact va_cast hx hb hK hP hD hS q 1 (am_ws_at hq) rfl (am_ix_in hi) hd (fun H1 locs1 hP1 hD1 hS1 => k _ _ _ _ _ _ (X0.mem (e := .inl (1, n, .inl _)) trivial hP1 hD1 hS1 (am_wt (am_wt (am_wt hws)))))
  case lastore =>
    obtain ⟨hd, hlen, hw⟩ := hdec (fun z => by cases z)
    obtain rfl : len = 1 := am_l1 hlen
    obtain ⟨q0, h1, rfl⟩ := am_SH_some hp
    obtain ⟨x, i, q, r, n, f, rfl, hq, hi, rfl⟩ := am_astl_some h1
    exact va_last hx hb hK hP hD hS q 3 (am_ws_at hq) rfl (am_ix_in hi) hd (fun H1 locs1 hP1 hD1 hS1 => k _ _ _ _ _ _ (X0.mem (e := .inl (3, n, .inr (.inl _))) trivial hP1 hD1 hS1 (am_wt (am_wt (am_wt hws)))))
  case aastore =>
    obtain ⟨hd, hlen, hw⟩ := hdec (fun z => by cases z)
    obtain rfl : len = 1 := am_l1 hlen
    obtain ⟨q0, h1, rfl⟩ := am_SH_some hp
    obtain ⟨v, i, q, r, n, f, fs, rfl, hq, hv, hi, rfl⟩ := am_astr_some h1
    have hwe : am_we h.1.length (.inl (4, n, .inr (.inr (.inr (.inr (va_up f i.toNatClampNeg (some v))))))) := by
      intro j z hz
      unfold va_up at hz
      split at hz
      · cases hz; exact hws _ List.mem_cons_self
      · exact hwh _ (List.mem_of_getElem? hq) j z hz
    refine va_astq hx hb hK hP hD hS q 4 v 3 (am_ws_at hq) rfl (am_ws_at hv) rfl (am_ix_in hi) hd (fun H1 locs1 hP1 hD1 hS1 => ?_)
    have e2 : (va_up (fun j => (f j).map ad) i.toNatClampNeg (some (ad v))) = fun j => (va_up f i.toNatClampNeg (some v) j).map ad := by
      funext j
      unfold va_up
      split <;> rfl
    rw [e2] at hP1 hD1
    exact k _ _ _ _ _ _ (X0.mem hwe hP1 hD1 hS1 (am_wt (am_wt (am_wt hws))))
  case arraylength =>
    obtain ⟨hd, hlen, hw⟩ := hdec (fun z => by cases z)
    obtain rfl : len = 1 := am_l1 hlen
    dsimp only [am_pst] at hp
    split at hp
    next r =>
      split at hp
      next h00 =>
        cases hp
        obtain ⟨hX, hbl, hbA⟩ := hscr
        rw [hcnt.2.2] at k
        exact va_slen hx hb hX hbl hbA hS hd (by have := k _ _ _ _ _ _ (X0.stk (am_wi (am_wt hws))); exact this)
      next => cases hp
    next => cases hp
  case new i =>
    obtain ⟨hd, hlen, hw⟩ := hdec (fun z => by cases z)
    obtain rfl : len = 3 := am_l3 hlen
    cases hp
    simp only [am_lkw, Bool.and_eq_true, decide_eq_true_eq] at hw
    obtain ⟨⟨⟨⟨hw1, hw2⟩, hw3⟩, hw4⟩, hw5⟩ := hw
    subst hw3
    have hc1 : cells + 1 ≤ R.cells := by have : cells + (h.2.1.1 + 1) ≤ R.cells + h.2.1.1 := hrc; omega
    have hc2 : slots + (am_q ea).2.2 ≤ R.slots := by have : slots + (h.2.1.2 + (am_q ea).2.2) ≤ R.slots + h.2.1.2 := hrs; omega
    refine va_new hx hb hG (am_uws ea hw2) (am_ft ea) (am_ft_ok ea hw2) hown (hG _ (am_good_mem hw1 rfl)) (hG _ (am_good_mem hw4 rfl)) (hG _ (am_good_mem hw5 rfl)) hK hP hD hS hA (am_cl_at hw2) (am_df_ok ea hw2) hc1 hc2 hd (fun q H1 hP1 hD1 hS1 => ?_)
    exact am_new_go X0 (z := .inr (ea, (am_df[ea]?).getD [])) (fun v hv => am_df_wv ea v hv _) (by show Sum.inr (ea, _) = Sum.inr (ea, _); rw [am_df_cv]) (by show Sum.inr (ea, _) = Sum.inr (ea, _); rw [am_df_cv]) hP1 hD1 hS1 k
  case newarray ty =>
    obtain ⟨hd, hlen, hw⟩ := hdec (fun z => by cases z)
    obtain rfl : len = 2 := am_l2 hlen
    obtain ⟨q0, h1, rfl⟩ := am_SH_some hp
    obtain ⟨n, r, rfl, hn1, hn2, rfl⟩ := am_nwa_some h1
    simp only [am_lkw, Bool.and_eq_true, decide_eq_true_eq] at hw
    obtain ⟨⟨hw1, hw2⟩, hw3⟩ := hw
    have hc1 : cells + 1 ≤ R.cells := by have : cells + (h.2.1.1 + 1) ≤ R.cells + h.2.1.1 := hrc; omega
    have hc2 : slots + n.toNatClampNeg ≤ R.slots := by have : slots + (h.2.1.2 + n.toNatClampNeg) ≤ R.slots + h.2.1.2 := hrs; omega
    have hnn : ¬ n < 0 := by rw [Int32.lt_iff_toInt_lt]; have : (0 : Int32).toInt = 0 := rfl; omega
    have hnb : n.toNatClampNeg ≤ 60000 := by show n.toInt.toNat ≤ 60000; omega
    subst hw1
    exact am_nwa_go hx hb (hG _ (am_good_mem hw3 rfl)) hw2 hK hP hD hS hA hnn hnb hc1 hc2 hd (fun q H1 hP1 hD1 hS1 => am_new_go (X0.stk (am_wt hws)) (z := .inl (am_at ty, am_zero (am_at ty) n.toNatClampNeg)) (am_zero_wa _ _ _) (by show Sum.inl _ = _; rw [am_ca_zero]) (by show Sum.inl _ = _; rw [am_ca_zero]) hP1 hD1 hS1 k)
  case anewarray i =>
    obtain ⟨hd, hlen, hw⟩ := hdec (fun z => by cases z)
    obtain rfl : len = 3 := am_l3 hlen
    obtain ⟨q0, h1, rfl⟩ := am_SH_some hp
    obtain ⟨n, r, rfl, hn1, hn2, rfl⟩ := am_nwa_some h1
    simp only [am_lkw, Bool.and_eq_true, decide_eq_true_eq] at hw
    obtain ⟨rfl, hw3⟩ := hw
    have hc1 : cells + 1 ≤ R.cells := by have : cells + (h.2.1.1 + 1) ≤ R.cells + h.2.1.1 := hrc; omega
    have hc2 : slots + n.toNatClampNeg ≤ R.slots := by have : slots + (h.2.1.2 + n.toNatClampNeg) ≤ R.slots + h.2.1.2 := hrs; omega
    have hnn : ¬ n < 0 := by rw [Int32.lt_iff_toInt_lt]; have : (0 : Int32).toInt = 0 := rfl; omega
    have hnb : n.toNatClampNeg ≤ 60000 := by show n.toInt.toNat ≤ 60000; omega
    refine va_newq hx hb hown (hG _ (am_good_mem hw3 rfl)) (va_AO.use hext.2.2.2.2.2) hK hP hD hS hA hnn rfl (by omega) hc1 hc2 hd (fun q cN H1 hKn hP1 hD1 hS1 => ?_)
    have hcN : cN = cA 4 := am_cls_one hKn (t := 4) rfl
    subst hcN
    exact am_new_go (X0.stk (am_wt hws)) (z := .inl (4, am_zero 4 n.toNatClampNeg)) (show am_wa h.1.length (am_zero 4 n.toNatClampNeg) from am_zero_wa 4 n.toNatClampNeg h.1.length) rfl rfl hP1 hD1 hS1 k
  case invokespecial i =>
    obtain ⟨hd, hlen, hw⟩ := hdec (fun z => by cases z)
    obtain rfl : len = 3 := am_l3 hlen
    dsimp only [am_pst] at hp
    split at hp
    next h6 =>
      split at hp
      next x r =>
        split at hp
        next hcs =>
          cases hp
          obtain rfl : ev = .int 6 := h6
          simp only [am_lkw, if_pos, decide_eq_true_eq] at hw
          refine W.objInit hx hb hown (hG _ (am_good_mem hw rfl)) (hG _ (am_good_mem am_w_oi rfl)) (hG _ (am_good_mem am_w_oc rfl)) rfl hlz rfl hd (by omega) (by have := am_cs_map ad b r; show 2 * 0 + _ + 12 ≤ _; omega) ?_
          exact k _ _ _ _ _ _ (X0.stk (am_wt hws))
        next => cases hp
      next => cases hp
    next => cases hp
  case invokestatic i =>
    obtain ⟨hd, hlen, hw⟩ := hdec (fun z => by cases z)
    obtain rfl : len = 3 := am_l3 hlen
    dsimp only [am_pst] at hp
    split at hp
    next h7 =>
      obtain ⟨q0, h1, rfl⟩ := am_SH_some hp
      obtain rfl : ev = .int 7 := h7
      obtain ⟨n, dp, k1, sp, k0, r, n0, n1, f, g, rfl, hq0, hq1, g1, g2, g3, g4, g5, hcs, rfl⟩ := am_cpy_some h1
      have hw0 : am_wat ew = some (.methodLink (am_cn m) i arraycopyName) := by simpa [am_lkw] using hw
      exact va_copyi hx hb hlz.symm hown (hG _ (am_good_mem hw0 rfl)) (hG _ (am_good_mem am_w_nat rfl)) (hG _ (am_good_mem am_w_acs rfl)) (hG _ (am_good_mem am_w_sys rfl)) hK hP hD hS k0 k1 0 0 (am_ws_at hq0) (am_ws_at hq1) rfl rfl rfl g1 g2 g3 g4 g5 (fun _ _ => rfl) (by omega) (by have := am_cs_map ad b r; have e7 := am_nfw; omega) hd (fun H1 locs1 hP1 hD1 hS1 => k _ _ _ _ _ _ (X0.mem (e := .inl (0, n1, .inl _)) trivial hP1 hD1 hS1 (am_wt (am_wt (am_wt (am_wt (am_wt hws)))))))
    next n7 =>
      split at hp
      next h10 =>
        obtain ⟨st', h1, rfl⟩ := am_S_some hp
        obtain rfl : ev = .int 10 := h10
        obtain ⟨x, y, r, rfl, hcs, rfl⟩ := am_mth_some h1
        have hw0 : am_wat ew = some (.methodLink (am_cn m) i Lib.Math.max.name) := by simpa [am_lkw] using hw
        exact va_mmax hx hb hlz.symm hown (hG _ (am_good_mem hw0 rfl)) (hG _ (am_good_mem am_w_smax rfl)) (hG _ (am_good_mem am_w_ms rfl)) (hG _ (am_good_mem am_w_cmax rfl)) (by omega) (by have := am_cs_map ad b r; omega) (by have : cells + h.2.1.1 ≤ R.cells + h.2.1.1 := hrc; omega) (by have : slots + h.2.1.2 ≤ R.slots + h.2.1.2 := hrs; omega) hd (k _ _ _ _ _ _ (X0.stk (am_wi (am_wt (am_wt hws)))))
      next n10 =>
        split at hp
        next h11 =>
          obtain ⟨st', h1, rfl⟩ := am_S_some hp
          obtain rfl : ev = .int 11 := h11
          obtain ⟨x, y, r, rfl, hcs, rfl⟩ := am_mth_some h1
          have hw0 : am_wat ew = some (.methodLink (am_cn m) i Lib.Math.min.name) := by simpa [am_lkw] using hw
          exact va_mmin hx hb hlz.symm hown (hG _ (am_good_mem hw0 rfl)) (hG _ (am_good_mem am_w_smin rfl)) (hG _ (am_good_mem am_w_ms rfl)) (hG _ (am_good_mem am_w_cmin rfl)) (by omega) (by have := am_cs_map ad b r; omega) (by have : cells + h.2.1.1 ≤ R.cells + h.2.1.1 := hrc; omega) (by have : slots + h.2.1.2 ≤ R.slots + h.2.1.2 := hrs; omega) hd (k _ _ _ _ _ _ (X0.stk (am_wi (am_wt (am_wt hws)))))
        next n11 =>
          split at hp
          next h12 =>
            obtain ⟨st', h1, rfl⟩ := am_S_some hp
            obtain rfl : ev = .int 12 := h12
            obtain ⟨x, r, rfl, hcs, rfl⟩ := am_mab_some h1
            have hw0 : am_wat ew = some (.methodLink (am_cn m) i Lib.Math.abs.name) := by simpa [am_lkw] using hw
            exact va_mabs hx hb hlz.symm hown (hG _ (am_good_mem hw0 rfl)) (hG _ (am_good_mem am_w_sabs rfl)) (hG _ (am_good_mem am_w_ms rfl)) (hG _ (am_good_mem am_w_cabs rfl)) (by omega) (by have := am_cs_map ad b r; omega) (by have : cells + h.2.1.1 ≤ R.cells + h.2.1.1 := hrc; omega) (by have : slots + h.2.1.2 ≤ R.slots + h.2.1.2 := hrs; omega) hd (k _ _ _ _ _ _ (X0.stk (am_wi (am_wt hws))))
          next => cases hp
  all_goals exact absurd hp (by simp [am_pst])
end AMS
