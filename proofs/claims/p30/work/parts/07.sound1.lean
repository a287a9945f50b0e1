/-! ===== the abstract machine against the machine: what they have to do with each other ===== -/
def am_cv (ad : Nat → Nat) (b : Nat) : Value → Value
  | .ref k => .ref (ad k)
  | .retAddr _ => .ref b
  | v => v
def am_ca (ad : Nat → Nat) : vp_A → vp_A
  | (n, .inr (.inr (.inr (.inr f)))) => (n, .inr (.inr (.inr (.inr fun j => (f j).map ad))))
  | a => a
def am_ce (ad : Nat → Nat) (b : Nat) (cA : Nat → ClassId) : va_E → va_E
  | .inl (t, a) => .inl (cA t, am_ca ad a)
  | .inr (ci, fs) => .inr (ci, fs.map (am_cv ad b))
def am_ws (ad : Nat → Nat) (b : Nat) (cA : Nat → ClassId) (hs : List va_E) : va_W := hs.mapIdx fun k e => (ad k, am_ce ad b cA e)
def am_wv (n : Nat) : Value → Prop
  | .ref k => k < n
  | _ => True
def am_wa (n : Nat) : vp_A → Prop
  | (_, .inr (.inr (.inr (.inr f)))) => ∀ j k, f j = some k → k < n
  | _ => True
def am_we (n : Nat) : va_E → Prop
  | .inl (_, a) => am_wa n a
  | .inr (_, fs) => ∀ v ∈ fs, am_wv n v
def am_wh (hs : List va_E) : Prop := ∀ e ∈ hs, am_we hs.length e
theorem am_cv_cat (ad : Nat → Nat) (b : Nat) (v : Value) : (am_cv ad b v).category = v.category := by cases v <;> rfl
theorem am_cv_eq {ad ad' : Nat → Nat} {b n : Nat} {v : Value} (h : ∀ k, k < n → ad' k = ad k) (hv : am_wv n v) : am_cv ad' b v = am_cv ad b v := by
  cases v with
  | ref k => show Value.ref (ad' k) = Value.ref (ad k); rw [h k hv]
  | _ => rfl
theorem am_cvl_eq {ad ad' : Nat → Nat} {b n : Nat} {l : List Value} (h : ∀ k, k < n → ad' k = ad k) (hv : ∀ v ∈ l, am_wv n v) : l.map (am_cv ad' b) = l.map (am_cv ad b) :=
  List.map_congr_left fun v hm => am_cv_eq h (hv v hm)
theorem am_ca_eq {ad ad' : Nat → Nat} {n : Nat} {a : vp_A} (h : ∀ k, k < n → ad' k = ad k) (hv : am_wa n a) : am_ca ad' a = am_ca ad a := by
  obtain ⟨len, f | f | f | f | f⟩ := a <;> try rfl
  show (len, _) = (len, _)
  congr 5
  funext j
  cases hf : f j with
  | none => rfl
  | some k => show some (ad' k) = some (ad k); rw [h k (hv j k hf)]
theorem am_ce_eq {ad ad' : Nat → Nat} {b n : Nat} {cA : Nat → ClassId} {e : va_E} (h : ∀ k, k < n → ad' k = ad k) (hv : am_we n e) : am_ce ad' b cA e = am_ce ad b cA e := by
  obtain ⟨t, a⟩ | ⟨ci, fs⟩ := e
  · show Sum.inl (cA t, am_ca ad' a) = Sum.inl (cA t, am_ca ad a)
    rw [am_ca_eq h hv]
  · show Sum.inr (ci, fs.map (am_cv ad' b)) = Sum.inr (ci, fs.map (am_cv ad b))
    rw [am_cvl_eq h hv]
theorem am_ws_eq {ad ad' : Nat → Nat} {b : Nat} {cA : Nat → ClassId} {hs : List va_E} (h : ∀ k, k < hs.length → ad' k = ad k) (hv : am_wh hs) : am_ws ad' b cA hs = am_ws ad b cA hs := by
  refine List.ext_getElem? fun i => ?_
  unfold am_ws
  rw [List.getElem?_mapIdx, List.getElem?_mapIdx]
  cases hi : hs[i]? with
  | none => rfl
  | some e =>
    have hl := (List.getElem?_eq_some_iff.mp hi).1
    show some (ad' i, am_ce ad' b cA e) = some (ad i, am_ce ad b cA e)
    rw [h i hl, am_ce_eq h (hv e (List.mem_of_getElem? hi))]
theorem am_ws_at {ad : Nat → Nat} {b k : Nat} {cA : Nat → ClassId} {hs : List va_E} {e : va_E} (h : hs[k]? = some e) : (am_ws ad b cA hs)[k]? = some (ad k, am_ce ad b cA e) := by
  unfold am_ws
  rw [List.getElem?_mapIdx, h]; rfl
theorem am_ws_set {ad : Nat → Nat} {b k : Nat} {cA : Nat → ClassId} {hs : List va_E} {e : va_E} : (am_ws ad b cA hs).set k (ad k, am_ce ad b cA e) = am_ws ad b cA (hs.set k e) := by
  unfold am_ws
  rw [List.mapIdx_set]
theorem am_ws_push {ad : Nat → Nat} {b : Nat} {cA : Nat → ClassId} {hs : List va_E} {e : va_E} : am_ws ad b cA (hs ++ [e]) = am_ws ad b cA hs ++ [(ad hs.length, am_ce ad b cA e)] := by
  unfold am_ws
  rw [List.mapIdx_concat]
theorem am_wv_mono {n n' : Nat} (h : n ≤ n') {v : Value} (hv : am_wv n v) : am_wv n' v := by
  cases v with
  | ref k => exact Nat.lt_of_lt_of_le hv h
  | _ => trivial
theorem am_wa_mono {n n' : Nat} (h : n ≤ n') {a : vp_A} (hv : am_wa n a) : am_wa n' a := by
  obtain ⟨len, f | f | f | f | f⟩ := a <;> try trivial
  exact fun j k hf => Nat.lt_of_lt_of_le (hv j k hf) h
theorem am_we_mono {n n' : Nat} (h : n ≤ n') {e : va_E} (hv : am_we n e) : am_we n' e := by
  obtain ⟨t, a⟩ | ⟨ci, fs⟩ := e
  · exact am_wa_mono h hv
  · exact fun v hm => am_wv_mono h (hv v hm)
theorem am_wh_set {hs : List va_E} {k : Nat} {e : va_E} (h : am_wh hs) (he : am_we hs.length e) : am_wh (hs.set k e) := by
  intro x hx
  rw [List.length_set]
  rcases List.mem_or_eq_of_mem_set hx with hx | hx
  · exact h x hx
  · rw [hx]; exact he
theorem am_wh_push {hs : List va_E} {e : va_E} (h : am_wh hs) (he : am_we hs.length e) : am_wh (hs ++ [e]) := by
  intro x hx
  have hl : hs.length ≤ (hs ++ [e]).length := by rw [List.length_append]; omega
  rcases List.mem_append.mp hx with hx | hx
  · exact am_we_mono hl (h x hx)
  · rw [List.mem_singleton.mp hx]; exact am_we_mono hl he
/-- the locals -/
def am_hl (ad : Nat → Nat) (b : Nat) (lsc : Array Slot) (nL : Nat) (ls : List Value) : Prop := lsc.size = nL ∧ lv_wf lsc ∧ ls.length = nL ∧ ∀ (i : Nat) (v : Value), ls[i]? = some v → v ≠ am_u → lsc[i]? = some (.val (am_cv ad b v))
def am_lv (ad : Nat → Nat) (b : Nat) (ls : List Value) : List (Nat × Value) := (List.range ls.length).filterMap fun i => match ls[i]? with
  | some v => if v = am_u then none else some (i, am_cv ad b v)
  | none => none
theorem am_lv_mem {ad : Nat → Nat} {b : Nat} {ls : List Value} {i : Nat} {w : Value} : (i, w) ∈ am_lv ad b ls ↔ ∃ v, ls[i]? = some v ∧ v ≠ am_u ∧ w = am_cv ad b v := by
  unfold am_lv
  rw [List.mem_filterMap]
  constructor
  · rintro ⟨j, hj, h⟩
    split at h
    next v hv =>
      split at h
      next => cases h
      next hn => cases h; exact ⟨v, hv, hn, rfl⟩
    next => cases h
  · rintro ⟨v, h1, h2, rfl⟩
    refine ⟨i, List.mem_range.mpr (List.getElem?_eq_some_iff.mp h1).1, ?_⟩
    rw [h1]
    dsimp only
    rw [if_neg h2]
theorem am_hl_has {ad : Nat → Nat} {b nL : Nat} {lsc : Array Slot} {ls : List Value} (h : am_hl ad b lsc nL ls) : lv_has lsc nL (am_lv ad b ls) := by
  refine ⟨h.1, h.2.1, fun q hq => ?_⟩
  obtain ⟨i, w⟩ := q
  obtain ⟨v, h1, h2, h3⟩ := am_lv_mem.mp hq
  show lsc[i]? = _
  rw [h.2.2.2 i v h1 h2, h3]
theorem am_hl_eq {ad ad' : Nat → Nat} {b n nL : Nat} {lsc : Array Slot} {ls : List Value} (hx : ∀ k, k < n → ad' k = ad k) (hv : ∀ v ∈ ls, am_wv n v) (h : am_hl ad b lsc nL ls) : am_hl ad' b lsc nL ls :=
  ⟨h.1, h.2.1, h.2.2.1, fun i v h1 h2 => by rw [h.2.2.2 i v h1 h2, am_cv_eq hx (hv v (List.mem_of_getElem? h1))]⟩
theorem am_kill_len (ls : List Value) (i : Nat) : (am_kill ls i).length = ls.length := by
  cases i with
  | zero => rfl
  | succ i =>
    show (if _ then _ else _ : List Value).length = _
    split
    · exact List.length_set
    · rfl
theorem am_kill_at {ls : List Value} {i j : Nat} {v : Value} (h : (am_kill ls i)[j]? = some v) (hv : v ≠ am_u) : ls[j]? = some v ∧ ¬ (j + 1 = i ∧ v.category = 2) := by
  cases i with
  | zero => exact ⟨h, fun q => by omega⟩
  | succ i =>
    have h9 : (if (ls.getD i .null).category = 2 then ls.set i am_u else ls)[j]? = some v := h
    clear h
    split at h9
    next hc =>
      by_cases hj : j = i
      · subst hj
        have hl : j < ls.length := by
          have := (List.getElem?_eq_some_iff.mp h9).1
          rwa [List.length_set] at this
        rw [List.getElem?_set_self hl] at h9
        exact absurd (Option.some.inj h9).symm hv
      · rw [List.getElem?_set_ne (Ne.symm hj)] at h9
        exact ⟨h9, fun q => hj (by omega)⟩
    next hc =>
      refine ⟨h9, fun q => hc ?_⟩
      have : j = i := by omega
      subst this
      rw [List.getD_eq_getElem?_getD, h9]
      exact q.2
theorem am_hl_s1 {ad : Nat → Nat} {b nL i : Nat} {lsc lsc' : Array Slot} {ls : List Value} {v : Value} (h : am_hl ad b lsc nL ls) (h' : lv_has lsc' nL ((i, am_cv ad b v) :: (am_lv ad b ls).filter (fun q => !(q.1 == i) && !(q.1 + 1 == i && q.2.category == 2)))) : am_hl ad b lsc' nL (am_s1 ls i v) := by
  refine ⟨h'.1, h'.2.1, by rw [am_s1, List.length_set, am_kill_len]; exact h.2.2.1, fun j x hj hx => ?_⟩
  unfold am_s1 at hj
  by_cases hji : j = i
  · subst hji
    have hl : j < (am_kill ls j).length := by
      have := (List.getElem?_eq_some_iff.mp hj).1
      rwa [List.length_set] at this
    rw [List.getElem?_set_self hl] at hj
    cases hj
    exact h'.2.2 (j, am_cv ad b v) List.mem_cons_self
  · rw [List.getElem?_set_ne (Ne.symm hji)] at hj
    obtain ⟨h1, h2⟩ := am_kill_at hj hx
    refine h'.2.2 (j, am_cv ad b x) (List.mem_cons_of_mem _ (List.mem_filter.mpr ⟨am_lv_mem.mpr ⟨x, h1, hx, rfl⟩, ?_⟩))
    dsimp only
    rw [am_cv_cat]
    have e1 : (j == i) = false := by simpa using hji
    rw [e1]
    by_cases h3 : j + 1 = i
    · have h4 : ¬ x.category = 2 := fun q => h2 ⟨h3, q⟩
      simp [h4]
    · simp [h3]
theorem am_hl_s2 {ad : Nat → Nat} {b nL i : Nat} {lsc lsc' : Array Slot} {ls : List Value} {v : Value} (h : am_hl ad b lsc nL ls) (h' : lv_has lsc' nL ((i, am_cv ad b v) :: (am_lv ad b ls).filter (fun q => !(q.1 == i) && (!(q.1 == i + 1) && !(q.1 + 1 == i && q.2.category == 2))))) : am_hl ad b lsc' nL (am_s2 ls i v) := by
  refine ⟨h'.1, h'.2.1, by rw [am_s2, List.length_set, List.length_set, am_kill_len]; exact h.2.2.1, fun j x hj hx => ?_⟩
  unfold am_s2 at hj
  by_cases hj1 : j = i + 1
  · subst hj1
    have hl := (List.getElem?_eq_some_iff.mp hj).1
    rw [List.length_set] at hl
    rw [List.getElem?_set_self hl] at hj
    exact absurd (Option.some.inj hj).symm hx
  rw [List.getElem?_set_ne (Ne.symm hj1)] at hj
  by_cases hji : j = i
  · subst hji
    have hl : j < (am_kill ls j).length := by
      have := (List.getElem?_eq_some_iff.mp hj).1
      rwa [List.length_set] at this
    rw [List.getElem?_set_self hl] at hj
    cases hj
    exact h'.2.2 (j, am_cv ad b v) List.mem_cons_self
  · rw [List.getElem?_set_ne (Ne.symm hji)] at hj
    obtain ⟨h1, h2⟩ := am_kill_at hj hx
    refine h'.2.2 (j, am_cv ad b x) (List.mem_cons_of_mem _ (List.mem_filter.mpr ⟨am_lv_mem.mpr ⟨x, h1, hx, rfl⟩, ?_⟩))
    dsimp only
    rw [am_cv_cat]
    have e1 : (j == i) = false := by simpa using hji
    have e2 : (j == i + 1) = false := by simpa using hj1
    rw [e1, e2]
    by_cases h3 : j + 1 = i
    · have h4 : ¬ x.category = 2 := fun q => h2 ⟨h3, q⟩
      simp [h4]
    · simp [h3]
/-- a store of what is not said any more -/
theorem am_hl_drop {ad : Nat → Nat} {b nL i : Nat} {lsc lsc' : Array Slot} {ls : List Value} {w : Value} (h : am_hl ad b lsc nL ls) (h' : lv_has lsc' nL ((i, w) :: (am_lv ad b ls).filter (fun q => !(q.1 == i) && !(q.1 + 1 == i && q.2.category == 2)))) : am_hl ad b lsc' nL (am_s1 ls i am_u) := by
  refine ⟨h'.1, h'.2.1, by rw [am_s1, List.length_set, am_kill_len]; exact h.2.2.1, fun j x hj hx => ?_⟩
  unfold am_s1 at hj
  by_cases hji : j = i
  · subst hji
    have hl : j < (am_kill ls j).length := by
      have := (List.getElem?_eq_some_iff.mp hj).1
      rwa [List.length_set] at this
    rw [List.getElem?_set_self hl] at hj
    exact absurd (Option.some.inj hj).symm hx
  · rw [List.getElem?_set_ne (Ne.symm hji)] at hj
    obtain ⟨h1, h2⟩ := am_kill_at hj hx
    refine h'.2.2 (j, am_cv ad b x) (List.mem_cons_of_mem _ (List.mem_filter.mpr ⟨am_lv_mem.mpr ⟨x, h1, hx, rfl⟩, ?_⟩))
    dsimp only
    rw [am_cv_cat]
    have e1 : (j == i) = false := by simpa using hji
    rw [e1]
    by_cases h3 : j + 1 = i
    · have h4 : ¬ x.category = 2 := fun q => h2 ⟨h3, q⟩
      simp [h4]
    · simp [h3]
theorem am_wl_kill {n i : Nat} {ls : List Value} (h : ∀ v ∈ ls, am_wv n v) : ∀ v ∈ am_kill ls i, am_wv n v := by
  cases i with
  | zero => exact h
  | succ i =>
    show ∀ v ∈ (if (ls.getD i .null).category = 2 then ls.set i am_u else ls), am_wv n v
    split
    · intro v hv
      rcases List.mem_or_eq_of_mem_set hv with hv | hv
      · exact h v hv
      · rw [hv]; trivial
    · exact h
theorem am_wl_s1 {n i : Nat} {ls : List Value} {x : Value} (h : ∀ v ∈ ls, am_wv n v) (hx : am_wv n x) : ∀ v ∈ am_s1 ls i x, am_wv n v := by
  intro v hv
  rcases List.mem_or_eq_of_mem_set hv with hv | hv
  · exact am_wl_kill h v hv
  · rw [hv]; exact hx
theorem am_wl_s2 {n i : Nat} {ls : List Value} {x : Value} (h : ∀ v ∈ ls, am_wv n v) (hx : am_wv n x) : ∀ v ∈ am_s2 ls i x, am_wv n v := by
  intro v hv
  rcases List.mem_or_eq_of_mem_set hv with hv | hv
  · rcases List.mem_or_eq_of_mem_set hv with hv | hv
    · exact am_wl_kill h v hv
    · rw [hv]; exact hx
  · rw [hv]; trivial
/-- the entry -/
theorem am_el_len : ∀ (as : List Value), (am_el as).length = am_cs as
  | [] => rfl
  | v :: r => by
    have ih := am_el_len r
    unfold am_el
    split
    next h => rw [List.length_cons, List.length_cons, ih]; simp [am_cs, h]; omega
    next h =>
      rw [List.length_cons, ih]
      have h1 : v.category = 1 := by rcases lv_cat v with q | q; exact q; exact absurd q h
      simp [am_cs, h1]; omega
theorem am_el_args (ad : Nat → Nat) (b : Nat) : ∀ (as : List Value) (o i : Nat) (v : Value), (am_el as)[i]? = some v → v ≠ am_u → (o + i, am_cv ad b v) ∈ lv_args o (as.map (am_cv ad b))
  | [], o, i, v, h, _ => by simp [am_el] at h
  | a :: r, o, i, v, h, hv => by
    unfold am_el at h
    rw [List.map_cons]
    unfold lv_args
    rw [am_cv_cat]
    split at h
    next hc =>
      rw [if_pos hc]
      match i, h with
      | 0, h => cases h; exact List.mem_cons_self
      | 1, h => cases h; exact absurd rfl hv
      | i + 2, h =>
        have := am_el_args ad b r (o + 2) i v h hv
        rw [show o + 2 + i = o + (i + 2) from by omega] at this
        exact List.mem_cons_of_mem _ this
    next hc =>
      rw [if_neg hc]
      match i, h with
      | 0, h => cases h; exact List.mem_cons_self
      | i + 1, h =>
        have := am_el_args ad b r (o + 1) i v h hv
        rw [show o + 1 + i = o + (i + 1) from by omega] at this
        exact List.mem_cons_of_mem _ this
theorem am_cs_map (ad : Nat → Nat) (b : Nat) (l : List Value) : ((l.map (am_cv ad b)).map fun v => v.category).sum = am_cs l := by
  unfold am_cs
  rw [List.map_map]
  congr 1
  exact List.map_congr_left fun v _ => am_cv_cat ad b v
theorem am_lg_len (l : List Value) : (lg_sl l).length = (l.map fun v => v.category).sum := by
  induction l with
  | nil => rfl
  | cons v r ih =>
    show (List.flatMap _ (v :: r)).length = _
    rw [List.flatMap_cons, List.length_append]
    have e : (List.flatMap (fun v => if v.category = 2 then [Slot.val v, .second] else [.val v]) r).length = (r.map fun v => v.category).sum := ih
    rw [e, List.map_cons, List.sum_cons]
    congr 1
    rcases lv_cat v with h | h <;> simp [h]
theorem am_hl_ent (ad : Nat → Nat) (b y : Nat) (as : List Value) (h : am_cs as ≤ am_mx y) :
    am_hl ad b ((lg_sl (as.map (am_cv ad b)) ++ List.replicate (am_mx y - (lg_sl (as.map (am_cv ad b))).length) Slot.unset).toArray) (am_mx y) (am_ent y as) := by
  have hlen : (lg_sl (as.map (am_cv ad b))).length = am_cs as := by rw [am_lg_len, am_cs_map]
  have he := lv_entry (as.map (am_cv ad b)) (n := am_mx y) (by rw [hlen]; exact h)
  refine ⟨he.1, he.2.1, ?_, fun i v hi hv => ?_⟩
  · unfold am_ent
    rw [List.length_append, List.length_replicate, am_el_len]
    omega
  · unfold am_ent at hi
    by_cases hl : i < (am_el as).length
    · rw [List.getElem?_append_left hl] at hi
      have := am_el_args ad b as 0 i v hi hv
      rw [Nat.zero_add] at this
      exact he.2.2 _ this
    · rw [List.getElem?_append_right (by omega), List.getElem?_replicate] at hi
      split at hi
      · cases hi; exact absurd rfl hv
      · cases hi
theorem am_wl_ent {n y : Nat} {as : List Value} (h : ∀ v ∈ as, am_wv n v) : ∀ v ∈ am_ent y as, am_wv n v := by
  have key : ∀ (as : List Value), (∀ v ∈ as, am_wv n v) → ∀ v ∈ am_el as, am_wv n v := by
    intro as
    induction as with
    | nil => intro _ v hv; simp [am_el] at hv
    | cons a r ih =>
      intro h v hv
      have hr := ih (fun v hv => h v (List.mem_cons_of_mem _ hv))
      unfold am_el at hv
      split at hv
      · rcases List.mem_cons.mp hv with rfl | hv
        · exact h _ List.mem_cons_self
        · rcases List.mem_cons.mp hv with rfl | hv
          · trivial
          · exact hr v hv
      · rcases List.mem_cons.mp hv with rfl | hv
        · exact h _ List.mem_cons_self
        · exact hr v hv
  intro v hv
  rcases List.mem_append.mp hv with hv | hv
  · exact key as h v hv
  · rw [(List.mem_replicate.mp hv).2]; trivial
