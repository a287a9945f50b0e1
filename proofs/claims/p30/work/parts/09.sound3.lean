/-! ===== the whole run of a method, by induction on the steps ===== -/
theorem am_pst_h {m pc : Nat} {en : am_I} {ls st : List Value} {h : am_H} {t : Nat × List Value × List Value × am_H} (hp : am_pst m en pc ls st h = some t) : t.2.2.2 = h ∨ (∃ k z, t.2.2.2 = am_w h k z) ∨ (∃ z sl, t.2.2.2 = am_n h z sl) := by
  obtain ⟨ins, len, ea, eb, ew, ev⟩ := en
  cases ins
  all_goals dsimp only [am_pst] at hp
  all_goals (repeat' split at hp)
  all_goals first
    | (cases hp; done)
    | (cases hp; exact Or.inl rfl)
    | (obtain ⟨st', -, rfl⟩ := am_S_some hp; exact Or.inl rfl)
    | (obtain ⟨q, -, rfl⟩ := am_SL_some hp; exact Or.inl rfl)
    | (obtain ⟨-, rfl⟩ := am_jmp_some hp; exact Or.inl rfl)
    | (obtain ⟨-, rfl⟩ := am_br_some hp; exact Or.inl rfl)
    | (obtain ⟨q, h1, rfl⟩ := am_SH_some hp; obtain ⟨_, _, _, _, -, -, -, -, -, rfl⟩ := am_put_some h1; exact Or.inr (Or.inl ⟨_, _, rfl⟩))
    | (obtain ⟨q, h1, rfl⟩ := am_SH_some hp; obtain ⟨_, _, _, _, _, _, -, -, -, rfl⟩ := am_asi_some h1; exact Or.inr (Or.inl ⟨_, _, rfl⟩))
    | (obtain ⟨q, h1, rfl⟩ := am_SH_some hp; obtain ⟨_, _, _, _, _, _, -, -, -, rfl⟩ := am_ast_some h1; exact Or.inr (Or.inl ⟨_, _, rfl⟩))
    | (obtain ⟨q, h1, rfl⟩ := am_SH_some hp; obtain ⟨_, _, _, _, _, _, -, -, -, rfl⟩ := am_astl_some h1; exact Or.inr (Or.inl ⟨_, _, rfl⟩))
    | (obtain ⟨q, h1, rfl⟩ := am_SH_some hp; obtain ⟨_, _, _, _, _, _, _, -, -, -, -, rfl⟩ := am_astr_some h1; exact Or.inr (Or.inl ⟨_, _, rfl⟩))
    | (obtain ⟨q, h1, rfl⟩ := am_SH_some hp; obtain ⟨_, _, -, -, -, rfl⟩ := am_nwa_some h1; exact Or.inr (Or.inr ⟨_, _, rfl⟩))
    | (obtain ⟨q, h1, rfl⟩ := am_SH_some hp; obtain ⟨_, _, _, _, _, _, _, _, _, _, -, -, -, -, -, -, -, -, -, rfl⟩ := am_cpy_some h1; exact Or.inr (Or.inl ⟨_, _, rfl⟩))
    | (cases hp; exact Or.inr (Or.inr ⟨_, _, rfl⟩))
theorem am_fin_h {m : Nat} {en : am_I} {st : List Value} {h : am_H} {o : am_R × am_H} (hp : am_fin m en st h = some o) : o.2 = h ∨ o.2 = am_bump h := by
  obtain ⟨ins, len, ea, eb, ew, ev⟩ := en
  cases ins
  all_goals dsimp only [am_fin] at hp
  all_goals (repeat' split at hp)
  all_goals first
    | (cases hp; done)
    | (cases hp; exact Or.inl rfl)
    | (cases hp; exact Or.inr rfl)
theorem am_cnt : ∀ (n d m pc : Nat) (ls st : List Value) (h : am_H) (o : am_R × am_H), am_ex n d m pc ls st h = some o → h.2.1.1 ≤ o.2.2.1.1 ∧ h.2.1.2 ≤ o.2.2.1.2 ∧ h.1.length ≤ o.2.1.length ∧ o.2.2.2 = h.2.2 := by
  intro n
  induction n with
  | zero => intro d m pc ls st h o hn; simp [am_ex] at hn
  | succ n ih =>
    intro d m pc ls st h o hn
    rw [am_ex] at hn
    split at hn
    next => cases hn
    next en hf =>
      split at hn
      next o2 ho2 =>
        cases hn
        rcases am_fin_h ho2 with q | q
        · rw [q]; exact ⟨Nat.le_refl _, Nat.le_refl _, Nat.le_refl _, rfl⟩
        · rw [q]; exact ⟨Nat.le_succ _, Nat.le_add_right _ _, Nat.le_refl _, rfl⟩
      next ho2 =>
        split at hn
        next q hq =>
          cases d with
          | zero => cases hn
          | succ d0 =>
            dsimp only at hn
            split at hn
            next rv h' hc =>
              obtain ⟨a1, a2, a3, a4⟩ := ih _ _ _ _ _ _ _ hc
              obtain ⟨b1, b2, b3, b4⟩ := ih _ _ _ _ _ _ _ hn
              exact ⟨Nat.le_trans a1 b1, Nat.le_trans a2 b2, Nat.le_trans a3 b3, b4.trans a4⟩
            next E h' hc =>
              split at hn
              next =>
                split at hn
                next t ht =>
                  obtain ⟨a1, a2, a3, a4⟩ := ih _ _ _ _ _ _ _ hc
                  obtain ⟨b1, b2, b3, b4⟩ := ih _ _ _ _ _ _ _ hn
                  exact ⟨Nat.le_trans a1 b1, Nat.le_trans a2 b2, Nat.le_trans a3 b3, b4.trans a4⟩
                next => cases hn
              next => cases hn
            next => cases hn
        next hq =>
          split at hn
          next t ht =>
            obtain ⟨b1, b2, b3, b4⟩ := ih _ _ _ _ _ _ _ hn
            rcases am_pst_h ht with q | ⟨k, z, q⟩ | ⟨z, sl, q⟩
            · rw [q] at b1 b2 b3 b4; exact ⟨b1, b2, b3, b4⟩
            · rw [q] at b1 b2 b3 b4; exact ⟨b1, b2, by have e1 : (am_w h k z).1.length = h.1.length := List.length_set
                                                       rw [e1] at b3; exact b3, b4⟩
            · rw [q] at b1 b2 b3 b4
              have e1 : (am_n h z sl).1.length = h.1.length + 1 := by show (h.1 ++ [z]).length = _; rw [List.length_append]; rfl
              have e2 : (am_n h z sl).2.1.1 = h.2.1.1 + 1 := rfl
              have e3 : (am_n h z sl).2.1.2 = h.2.1.2 + sl := rfl
              exact ⟨by omega, by omega, by omega, b4⟩
          next => cases hn
/-- what a method is called with, and what it leaves -/
def am_B (D : va_G) (cA : Nat → ClassId) (b : Nat) (ad : Nat → Nat) (h : am_H) (sz : Nat) (U : State) : Prop :=
  U.heap.size = sz ∧ va_P D vwCl (am_ws ad b cA h.1) U.heap ∧ va_K D vwCl (am_tys cA) U ∧ va_D (fun _ => True) (am_ws ad b cA h.1) ∧ am_Ext (va_A (am_ws ad b cA h.1) sz) U U.heap ∧ va_X b h.2.2.1 h.2.2.2 U U.heap ∧ b < sz ∧ ¬ va_A (am_ws ad b cA h.1) sz b
def am_T (D : va_G) (cA : Nat → ClassId) (b : Nat) (ad ad' : Nat → Nat) (h h' : am_H) (A1 : Nat → Prop) (t : State) : Prop :=
  va_P D vwCl (am_ws ad' b cA h'.1) t.heap ∧ va_D A1 (am_ws ad' b cA h'.1) ∧ am_wh h'.1 ∧ ∀ k, k < h.1.length → ad' k = ad k
def am_Qc (D : va_G) (cA : Nat → ClassId) (b : Nat) (ad : Nat → Nat) (h : am_H) (o : am_R × am_H) (A1 : Nat → Prop) : Array Value → State → Outcome → State → Prop := fun _ st oc t =>
  ∃ (rv : Option Value) (ad' : Nat → Nat), o.1 = .inl rv ∧ oc = .returned (rv.map (am_cv ad' b)) ∧ am_T D cA b ad ad' h o.2 A1 t ∧ (∀ v, rv = some v → am_wv o.2.1.length v) ∧ va_F A1 st t
def am_XC (D : va_G) (cA : Nat → ClassId) (b : Nat) (ad : Nat → Nat) (h : am_H) (o : am_R × am_H) (A1 : Nat → Prop) : String → State → State → Prop := fun E st t =>
  ∃ ad' : Nat → Nat, o.1 = .inr E ∧ am_T D cA b ad ad' h o.2 A1 t ∧ va_F A1 st t
def am_rm (d mc ms : Nat) : Room := { frames := 12 + d, cells := mc, slots := ms, locals := 400 + 40 * d }
theorem am_Ext.to {A A' : Nat → Prop} {s U : State} {H H' : Heap} (h : am_Ext A s H) (hW : s.WarmedH U.vm) (hq : ∀ a : Nat, a < H.size → ¬ A a → H'[a]? = H[a]?) (hA : ∀ q, A' q → A q) : am_Ext A' U H' := by
  obtain ⟨h1, h2, h3, h4, h5, h6⟩ := h
  refine ⟨fun w hw => ?_, fun q hm => ?_, ((h3.moved hW.alike).kept hq).narrow hA, ((h4.moved hW.alike).kept hq).narrow hA, fun x hx y hy n => (h5 x hx y hy n).moved hW.alike, h6.moved hW.alike⟩
  · have hn := (List.mem_filter.mp hw).2
    have h0 := h1 w hw
    cases w <;> first | exact va_Nw.warmF hW h0 | exact va_Nw.warmM hW h0 | exact va_Nw.warmD hW h0 | exact va_Nw.warmC hW h0 | cases hn
  · obtain ⟨sa, hsa⟩ := h2 q hm
    exact ⟨sa, hsa.warm hW⟩
theorem am_Ext.same {A : Nat → Prop} {s U : State} {H : Heap} (h : am_Ext A s H) (hv : s.vm = U.vm) : am_Ext A U H := by
  obtain ⟨h1, h2, h3, h4, h5, h6⟩ := h
  have hal : s.vm.Alike U.vm := hv ▸ Vm.Alike.refl s.vm
  refine ⟨fun w hw => ?_, fun q hm => ?_, h3.moved hal, h4.moved hal, fun x hx y hy n => (h5 x hx y hy n).moved hal, h6.moved hal⟩
  · have hn := (List.mem_filter.mp hw).2
    have h0 := h1 w hw
    cases w <;> first | exact va_Nw.same rfl hv h0 | cases hn
  · obtain ⟨sa, hsa⟩ := h2 q hm
    exact ⟨sa, hsa.same hv.symm⟩
theorem am_blind {D : va_G} {cA : Nat → ClassId} {b : Nat} {ad : Nat → Nat} {h : am_H} {sz : Nat} {av : List Value} : FrameBlind (va_Pc av (am_B D cA b ad h sz)) := by
  intro a U g mk q
  obtain ⟨e1, e2, e3, e4, e5, e6, e7, e8⟩ := q
  exact ⟨e1, e2, e3, va_K.moved (u := U) (U := U.calling g mk a) (Vm.Alike.refl U.vm) e4, e5, e6.same (U := U.calling g mk a) rfl, va_X.moved (u := U) (U := U.calling g mk a) (Vm.Alike.refl U.vm) e7, e8⟩
section AMX
variable {p : Program} {l : Launch} {e : Env} {R : Room} {s : State} {mid : MethodId} {args : Array Value} {below : List Frame} {meth : Method} {c : Code}
def am_SF (l : Launch) (n : Nat) : Prop :=
  ∀ (d m pc : Nat) (ls st : List Value) (h : am_H) (o : am_R × am_H), am_ex n d m pc ls st h = some o →
  ∀ (p : Program) (e : Env) (R : Room) (s : State) (mid : MethodId) (args : Array Value) (below : List Frame) (meth : Method) (c : Code) (D : va_G) (A0 : Nat → Prop) (cA : Nat → ClassId) (b : Nat) (h0 : am_H) (ad0 ad : Nat → Nat) (H : Heap) (locs : List Loc) (cells slots : Nat) (lsc : Array Slot) (Q : State → Prop),
    am_Ct p R s mid args meth c m d D A0 cA b h0 → am_Dy s m D A0 cA b h0 ad0 ad h H locs cells slots ls lsc st → cells + o.2.2.1.1 ≤ R.cells + h.2.1.1 → slots + o.2.2.1.2 ≤ R.slots + h.2.1.2 →
    (∀ (pc' : Nat) (ls' st' : List Value) (h1 : am_H) (ad' : Nat → Nat) (H' : Heap) (locs' : List Loc) (cells' slots' : Nat) (lsc' : Array Slot) (en' : am_I), am_tab m pc' = some en' → am_fin m en' st' h1 = some o → am_Dy s m D A0 cA b h0 ad0 ad' h1 H' locs' cells' slots' ls' lsc' st' →
      W p l e R s mid args below meth c H' locs' cells' slots' Q (F0 mid pc' lsc' (st'.map (am_cv ad' b)))) →
    W p l e R s mid args below meth c H locs cells slots Q (F0 mid pc lsc (st.map (am_cv ad b)))
/-- behind a call that may throw -/
theorem am_run {pc : Nat} {lsc : Array Slot} {stc rest : List Value} {H : Heap} {locs : List Loc} {cells slots mc ms : Nat} {Q : State → Prop} {Qa : State → Outcome → State → Prop} {XC : String → State → State → Prop} {A0 A1 : Nat → Prop} {H0 : Heap}
    (hr : vx_Run p l e R s mid args below meth c H locs cells slots mc ms (F0 mid pc lsc stc) rest Qa XC A1) (hS : va_S A0 H0 H locs) (hA : ∀ q, A1 q → A0 q)
    (hQ : ∀ (st : State) (v : Option Value) (t : State), Qa st (.returned v) t → va_F A1 st t) (hX : ∀ (E : String) (st t : State), XC E st t → va_F A1 st t)
    (kk : ∀ (v : Option Value) (st₀ t : State) (H1 : Heap) (locs1 : List Loc), t.heap = H1 → s.vm.Alike t.vm → Qa st₀ (.returned v) t → va_S A0 H0 H1 locs1 → W p l e R s mid args below meth c H1 locs1 (cells + mc) (slots + ms) Q (F0 mid (pc + 3) lsc (v.toList ++ rest)))
    (kx : ∀ (q : Addr) (st₀ t : State) (H1 : Heap) (locs1 : List Loc) (E : String) (ce : Cell), t.heap = H1 → s.vm.Alike t.vm → XC E st₀ t → va_S A0 H0 H1 locs1 → H1[q]? = some ce → ce.vm = .none → s.vm.findClass E = some ce.cls → vx_W p l e R s mid args below meth c H1 locs1 (cells + mc) (slots + ms) Q (F0 mid pc lsc rest) q) :
    W p l e R s mid args below meth c H locs cells slots Q (F0 mid pc lsc stc) := by
  intro T hT X
  rcases hr T hT X with ⟨v, st₀, t, T', L, h0, X', hL, e1, e2, hq, st⟩ | ⟨q, st₀, t, T', L, E, ce, h0, X', hL, e1, e2, hq, hc1, hc2, hc3, st⟩
  · obtain ⟨-, -, g3⟩ := vx_keep h0 e1 hS (fun q _ z => hA q z) hA hL (hQ _ _ _ hq)
    obtain ⟨t2, a1, b1⟩ := kk v st₀ t T'.heap (locs ++ L) e1.symm (by rw [← e2]; exact X'.warmed.alike) hq g3 T' rfl X'
    exact ⟨t2, st t2 a1, b1⟩
  · obtain ⟨-, -, g3⟩ := vx_keep h0 e1 hS (fun q _ z => hA q z) hA hL (hX _ _ _ hq)
    obtain ⟨t2, a1, b1⟩ := kx q st₀ t T'.heap (locs ++ L) E ce e1.symm (by rw [← e2]; exact X'.warmed.alike) hq g3 (by rw [e1]; exact hc1) hc2 hc3 T' rfl X'
    exact ⟨t2, st.trans a1, b1⟩
end AMX
