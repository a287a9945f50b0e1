/-! ===== objects are made ===== -/
section INI
/-- cells are made behind place p: n of them, of m slots; those ahead of p are as they were -/
def gw (h h' : am_H) (p n m : Nat) : Prop := (∀ q, q < p → h'.1[q]? = h.1[q]?) ∧ h'.1.length = h.1.length + n ∧ h'.2.1 = (h.2.1.1 + n, h.2.1.2 + m) ∧ h'.2.2 = h.2.2
section GW
variable {h h1 h2 h' : am_H} {p p' q n n' m m' : Nat}
theorem gw.rf : gw h h p 0 0 := ⟨fun _ _ => rfl, rfl, rfl, rfl⟩
theorem gw.tr (a : gw h h1 p n m) (b : gw h1 h2 p n' m') : gw h h2 p (n + n') (m + m') := by
  obtain ⟨a1, a2, a3, a4⟩ := a
  obtain ⟨b1, b2, b3, b4⟩ := b
  refine ⟨fun q hq => (b1 q hq).trans (a1 q hq), by omega, ?_, b4.trans a4⟩
  rw [b3, a3, Nat.add_assoc, Nat.add_assoc]
theorem gw.lo (a : gw h h' p n m) (hq : p' ≤ p) : gw h h' p' n m := ⟨fun q h1 => a.1 q (by omega), a.2⟩
theorem gw.cg (a : gw h h' p n m) (e1 : n = n') (e2 : m = m') : gw h h' p n' m' := e1 ▸ e2 ▸ a
theorem gw.at {e : va_E} (a : gw h h' p n m) (hq : q < p) (ho : h.1[q]? = some e) : h'.1[q]? = some e := (a.1 q hq).trans ho
theorem gw_fr (f : fr (fun x => x = q) h h') (hq : p ≤ q) : gw h h' p 0 0 := ⟨fun x hx => f.2.2 x (by omega), f.1, by rw [f.2.1]; rfl, by rw [f.2.1]⟩
theorem gw_frS {S : Nat → Prop} (f : fr S h h') (hq : ∀ x, x < p → ¬ S x) : gw h h' p 0 0 := ⟨fun x hx => f.2.2 x (hq x hx), f.1, by rw [f.2.1]; rfl, by rw [f.2.1]⟩
theorem gw_n {e : va_E} {sl : Nat} : gw h (am_n h e sl) h.1.length 1 sl := ⟨fun q hq => List.getElem?_append_left hq, by show (h.1 ++ [e]).length = _; rw [List.length_append]; rfl, rfl, rfl⟩
theorem am_n_at {e : va_E} {sl : Nat} : (am_n h e sl).1[h.1.length]? = some e := by
  show (h.1 ++ [e])[h.1.length]? = _
  rw [List.getElem?_append_right (Nat.le_refl _), Nat.sub_self]; rfl
theorem oA.gw {t k : Nat} {g : Int → Int} (a : oA t h q k g) (b : gw h h' p n m) (hq : q < p) : oA t h' q k g := by
  obtain ⟨f, o, c⟩ := a
  exact ⟨f, b.at hq o, c⟩
theorem oL.gw {k : Nat} {g : Int → Int64} (a : oL h q k g) (b : gw h h' p n m) (hq : q < p) : oL h' q k g := by
  obtain ⟨f, o, c⟩ := a
  exact ⟨f, b.at hq o, c⟩
theorem Mead.gw {R : Int → Int} (a : Mead h q R) (b : gw h h' p n m) (hq : q + 4 < p) : Mead h' q R :=
  ⟨b.at (by omega) a.1, a.2.1.gw b (by omega), a.2.2.1.gw b (by omega), a.2.2.2.1.gw b (by omega), a.2.2.2.2.gw b (by omega)⟩
theorem Hl0.gw (a : Hl0 h q) (b : gw h h' p n m) (hq : q + 1 < p) : Hl0 h' q := by
  obtain ⟨o, g, g1, g2⟩ := a
  exact ⟨b.at (by omega) o, g, g1.gw b (by omega), g2⟩
theorem Srch.gw (a : Srch h q) (b : gw h h' p n m) (hq : q + 2 < p) : Srch h' q := by
  obtain ⟨⟨v, lk, fd, o⟩, c⟩ := a
  exact ⟨⟨v, lk, fd, b.at (by omega) o⟩, c.gw b (by omega)⟩
theorem Herd.gw {R : Int → Int} (a : Herd h q R) (b : gw h h' p n m) (hq : q + 8 < p) : Herd h' q R :=
  ⟨b.at (by omega) a.1, a.2.1.gw b (by omega), a.2.2.gw b (by omega)⟩
theorem Plan.gw (a : Plan h q) (b : gw h h' p n m) (hq : q + 3 < p) : Plan h' q := by
  obtain ⟨⟨mo, we, o⟩, c, g, g1, g2⟩ := a
  exact ⟨⟨mo, we, b.at (by omega) o⟩, c.gw b (by omega), g, g1.gw b (by omega), g2⟩
theorem Subs.gw (a : Subs h q) (b : gw h h' p n m) (hq : q + 1 < p) : Subs h' q := by
  obtain ⟨o, g, g1⟩ := a
  exact ⟨b.at (by omega) o, g, g1.gw b (by omega)⟩
theorem Hist.gw {S : Int → Int → Int} {c : Int} (a : Hist h q S c) (b : gw h h' p n m) (hq : q + 71 < p) : Hist h' q S c := by
  obtain ⟨nx, M, f, o, e, ⟨o2, e2⟩, mm, r⟩ := a
  exact ⟨nx, M, f, b.at (by omega) o, e, ⟨b.at (by omega) o2, e2⟩, fun i hi => (mm i hi).gw b (by omega), r⟩
theorem Slot.gw {G : Nat → Int → Int} {bb : Int → Int} (a : Slot h q G bb) (b : gw h h' p n m) (hq : q + 12 < p) : Slot h' q G bb := by
  obtain ⟨f, o, ⟨oa, eA⟩, ob, eb, mm⟩ := a
  exact ⟨f, b.at (by omega) o, ⟨b.at (by omega) oa, eA⟩, ob.gw b (by omega), eb, fun i hi => (mm i hi).gw b (by omega)⟩
theorem Tx.gw {T : Int → Int} {L pos le fi se : Int} (a : Tx h q T L pos le fi se) (b : gw h h' p n m) (hq : q + 1 < p) : Tx h' q T L pos le fi se := by
  obtain ⟨o, l, g, g1, g2⟩ := a
  exact ⟨b.at (by omega) o, l, g, g1.gw b (by omega), g2⟩
theorem oA_0 {t k : Nat} (ho : h.1[q]? = some (.inl (t, k, .inl fun _ => 0))) : oA t h q k (fun _ => 0) := ⟨_, ho, fun _ _ => show (0 : Int32) = iI 0 by decide⟩
end GW
section AXN
variable {d m pc : Nat} {ls st : List Value} {h : am_H} {Q : am_R → am_H → Prop}
theorem ax_newO {i a b w p : Nat} {fs : List Value} (hf : am_tab m pc = some (.new i, 3, a, b, w, .null)) (hd : (am_df[a]?).getD [] = fs) (hl : h.1.length = p) (k : ∀ h' : am_H, h'.1[p]? = some (.inr (a, fs)) → gw h h' p 1 b → am_X d m (pc + 3) ls (.ref p :: st) h' Q) : am_X d m pc ls st h Q := by
  subst hl
  subst hd
  exact ax_new hf (k _ am_n_at gw_n)
theorem ax_nwaO {ty : ArrayType} {a w p N : Nat} {z : Int} {A : vp_A} (hf : am_tab m pc = some (.newarray ty, 2, a, 0, w, .null)) (h1 : 0 ≤ z) (h2 : z ≤ 60000) (hN : z.toNat = N) (hA : am_zero a N = A) (hl : h.1.length = p) (k : ∀ h' : am_H, h'.1[p]? = some (.inl (a, A)) → gw h h' p 1 N → am_X d m (pc + 2) ls (.ref p :: st) h' Q) : am_X d m pc ls (.int (iI z) :: st) h Q := by
  subst hl
  subst hA
  subst hN
  exact ax_newarray hf h1 h2 (k _ am_n_at gw_n)
theorem ax_nwrO {i a w p N : Nat} {z : Int} {A : vp_A} (hf : am_tab m pc = some (.anewarray i, 3, a, 0, w, .null)) (h1 : 0 ≤ z) (h2 : z ≤ 60000) (hN : z.toNat = N) (hA : am_zero a N = A) (hl : h.1.length = p) (k : ∀ h' : am_H, h'.1[p]? = some (.inl (a, A)) → gw h h' p 1 N → am_X d m (pc + 3) ls (.ref p :: st) h' Q) : am_X d m pc ls (.int (iI z) :: st) h Q := by
  subst hl
  subst hA
  subst hN
  exact ax_anewarray hf h1 h2 (k _ am_n_at gw_n)
end AXN
theorem bN_0 : ∀ n, bN (fun _ => 0) n = 0
  | 0 => rfl
  | n + 1 => by
    unfold bN
    rw [bN_0 n, if_neg (by decide)]
theorem lB_z {g : Int → Int} (h : ∀ j, 0 ≤ j → j < 48 → g j = 0) : (0 : Int64) = lB g := by
  rw [lB_congE (g := fun _ => 0) h]
  unfold lB
  rw [bN_0]
  rfl
theorem c_23 {h : am_H} {p : Nat} (hl : h.1.length = p + 1) (this : h.1[p]? = some (.inr (0, [.null]))) : am_X 0 23 0 (am_ent 23 [.ref p]) [] h (fun r h' => rV r ∧ Hl0 h' p ∧ gw h h' p 1 49) := by
  show am_X 0 23 0 [.ref p] [] h _
  have Wg : gw h h p 0 0 := gw.rf
  refine ax_aload_n f23_0 rfl ?_
  refine ax_objinit f23_1 (Nat.le_of_ble_eq_true rfl) ?_
  refine ax_aload_n f23_4 rfl ?_
  refine ax_bipush f23_5 ?_
  refine ax_nwaO f23_7 (by omega) (by omega) rfl rfl hl (fun h1 o1 w1 => ?_)
  have hl : h1.1.length = p + 2 := by have := w1.2.1; omega
  have this := w1.at (by omega) this
  have Wg := Wg.tr (w1.lo (by omega))
  have g := oA_0 o1
  refine ax_putfO f23_9 this rfl rfl rfl rfl (fun h2 o2 r2 => ?_)
  have hl : h2.1.length = p + 2 := r2.1.trans hl
  have g := g.fr r2 (by omega)
  have Wg := Wg.tr (gw_fr r2 (by omega))
  have this := o2
  refine ax_return f23_12 rfl ?_
  exact ⟨rfl, ⟨this, _, g, rfl⟩, Wg.cg rfl rfl⟩
theorem c_80 {h : am_H} {p : Nat} (hl : h.1.length = p + 1) (this : h.1[p]? = some (.inr (5, [.null, .null, .int 0, .long 0]))) : am_X 1 80 0 (am_ent 80 [.ref p]) [] h (fun r h' => rV r ∧ Srch h' p ∧ gw h h' p 2 50) := by
  show am_X 1 80 0 [.ref p] [] h _
  have Wg : gw h h p 0 0 := gw.rf
  refine ax_aload_n f80_0 rfl ?_
  refine ax_objinit f80_1 (Nat.le_of_ble_eq_true rfl) ?_
  refine ax_aload_n f80_4 rfl ?_
  refine ax_newO f80_5 rfl hl (fun h1 o1 w1 => ?_)
  have hl : h1.1.length = p + 2 := by have := w1.2.1; omega
  have this := w1.at (by omega) this
  have Wg := Wg.tr (w1.lo (by omega))
  refine ax_dup f80_8 rfl ?_
  refine ax_ciV (rest := [_, _]) f80_9 (Or.inr rfl) rfl rfl rfl rfl rfl rfl (c_23 hl o1) ?_
  rintro h2 ⟨hH, w2⟩
  have hl : h2.1.length = p + 3 := by have := w2.2.1; omega
  have this := w2.at (by omega) this
  have Wg := Wg.tr (w2.lo (by omega))
  refine ax_putfO f80_12 this rfl rfl rfl rfl (fun h3 o3 r3 => ?_)
  have hl : h3.1.length = p + 3 := r3.1.trans hl
  have hH := hH.fr r3 (by omega) (by omega)
  have Wg := Wg.tr (gw_fr r3 (by omega))
  have this := o3
  refine ax_return f80_15 rfl ?_
  exact ⟨rfl, ⟨⟨_, _, _, this⟩, hH⟩, Wg.cg rfl rfl⟩
theorem c_91 {h : am_H} {p : Nat} (hl : h.1.length = p + 1) (this : h.1[p]? = some (.inr (7, [.null]))) : am_X 0 91 0 (am_ent 91 [.ref p]) [] h (fun r h' => rV r ∧ Subs h' p ∧ gw h h' p 1 75) := by
  show am_X 0 91 0 [.ref p] [] h _
  have Wg : gw h h p 0 0 := gw.rf
  refine ax_aload_n f91_0 rfl ?_
  refine ax_objinit f91_1 (Nat.le_of_ble_eq_true rfl) ?_
  refine ax_aload_n f91_4 rfl ?_
  refine ax_bipush f91_5 ?_
  refine ax_nwaO f91_7 (by omega) (by omega) rfl rfl hl (fun h1 o1 w1 => ?_)
  have hl : h1.1.length = p + 2 := by have := w1.2.1; omega
  have this := w1.at (by omega) this
  have Wg := Wg.tr (w1.lo (by omega))
  have g := o1
  refine ax_putfO f91_9 this rfl rfl rfl rfl (fun h2 o2 r2 => ?_)
  have hl : h2.1.length = p + 2 := r2.1.trans hl
  have g := r2.at (q := p + 1) (by omega) g
  have Wg := Wg.tr (gw_fr r2 (by omega))
  have this := o2
  refine ax_return f91_12 rfl ?_
  exact ⟨rfl, ⟨this, fun _ => 0, _, g, fun _ _ => rfl⟩, Wg.cg rfl rfl⟩
theorem c_95 {h : am_H} {p : Nat} {T : Int → Int} (hl : h.1.length = p + 1) (this : h.1[p]? = some (.inr (8, [.null, .int 0, .int 0, .int 0, .int 0, .int 0]))) : am_X 0 95 0 (am_ent 95 [.ref p]) [] h (fun r h' => rV r ∧ Tx h' p T 0 0 0 0 0 ∧ gw h h' p 1 120) := by
  show am_X 0 95 0 [.ref p] [] h _
  have Wg : gw h h p 0 0 := gw.rf
  refine ax_aload_n f95_0 rfl ?_
  refine ax_objinit f95_1 (Nat.le_of_ble_eq_true rfl) ?_
  refine ax_aload_n f95_4 rfl ?_
  refine ax_bipush f95_5 ?_
  refine ax_nwaO f95_7 (by omega) (by omega) rfl rfl hl (fun h1 o1 w1 => ?_)
  have hl : h1.1.length = p + 2 := by have := w1.2.1; omega
  have this := w1.at (by omega) this
  have Wg := Wg.tr (w1.lo (by omega))
  have g := oA_0 o1
  refine ax_putfO f95_9 this rfl rfl rfl rfl (fun h2 o2 r2 => ?_)
  have hl : h2.1.length = p + 2 := r2.1.trans hl
  have g := g.fr r2 (by omega)
  have Wg := Wg.tr (gw_fr r2 (by omega))
  have this := o2
  refine ax_return f95_12 rfl ?_
  exact ⟨rfl, ⟨this, ⟨by decide, by decide⟩, _, g, fun j j1 j2 => by omega⟩, Wg.cg rfl rfl⟩
theorem c_69 {h : am_H} {p : Nat} (hl : h.1.length = p + 1) (this : h.1[p]? = some (.inr (4, [.null, .null, .int 0, .int 0]))) : am_X 1 69 0 (am_ent 69 [.ref p]) [] h (fun r h' => rV r ∧ Plan h' p ∧ gw h h' p 3 2451) := by
  show am_X 1 69 0 [.ref p] [] h _
  have Wg : gw h h p 0 0 := gw.rf
  refine ax_aload_n f69_0 rfl ?_
  refine ax_objinit f69_1 (Nat.le_of_ble_eq_true rfl) ?_
  refine ax_aload_n f69_4 rfl ?_
  refine ax_newO f69_5 rfl hl (fun h1 o1 w1 => ?_)
  have hl : h1.1.length = p + 2 := by have := w1.2.1; omega
  have this := w1.at (by omega) this
  have Wg := Wg.tr (w1.lo (by omega))
  refine ax_dup f69_8 rfl ?_
  refine ax_ciV (rest := [_, _]) f69_9 (Or.inr rfl) rfl rfl rfl rfl rfl rfl (c_23 hl o1) ?_
  rintro h2 ⟨hH, w2⟩
  have hl : h2.1.length = p + 3 := by have := w2.2.1; omega
  have this := w2.at (by omega) this
  have Wg := Wg.tr (w2.lo (by omega))
  refine ax_putfO f69_12 this rfl rfl rfl rfl (fun h3 o3 r3 => ?_)
  have hl : h3.1.length = p + 3 := r3.1.trans hl
  have hH := hH.fr r3 (by omega) (by omega)
  have Wg := Wg.tr (gw_fr r3 (by omega))
  have this := o3
  refine ax_aload_n f69_15 rfl ?_
  refine ax_sipush f69_16 ?_
  refine ax_nwaO f69_19 (by omega) (by omega) rfl rfl hl (fun h4 o4 w4 => ?_)
  have hl : h4.1.length = p + 4 := by have := w4.2.1; omega
  have this := w4.at (by omega) this
  have hH := hH.gw w4 (by omega)
  have Wg := Wg.tr (w4.lo (by omega))
  have g := oA_0 o4
  refine ax_putfO f69_21 this rfl rfl rfl rfl (fun h5 o5 r5 => ?_)
  have hl : h5.1.length = p + 4 := r5.1.trans hl
  have hH := hH.fr r5 (by omega) (by omega)
  have g := g.fr r5 (by omega)
  have Wg := Wg.tr (gw_fr r5 (by omega))
  have this := o5
  refine ax_return f69_24 rfl ?_
  exact ⟨rfl, ⟨⟨_, _, this⟩, hH, _, g, fun _ _ _ => rfl⟩, Wg.cg rfl rfl⟩
theorem lp_41 {d p : Nat} {Q : am_R → am_H → Prop} {fs : List Value} : ∀ {h : am_H} (this : h.1[p]? = some (.inr (3, .ref (p + 1) :: fs))) (n : Nat) (r : Int), r + n = 48 → 0 ≤ r → ∀ g : Int → Int, oI h (p + 1) 48 g → (∀ j, 0 ≤ j → j < r → g j = 1) → (∀ h' : am_H, oI h' (p + 1) 48 (fun _ => 1) → fr (fun x => x = p + 1) h h' → am_X d 41 62 [.ref p, .int (iI 48)] [] h' Q) → am_X d 41 43 [.ref p, .int (iI r)] [] h Q
  | h, this, 0, r, h1, h2, g, ar, hg, k => by
    have h1 : r = 48 := by omega
    subst h1
    refine ax_iload_n f41_43 rfl ?_
    refine ax_bipush f41_44 ?_
    refine ax_icmp_ge f41_46 rfl ⟨by omega, by omega⟩ ⟨by omega, by omega⟩ (fun q46 => ?_) (fun q46 => absurd q46 (by omega))
    exact k h (ar.eq fun j j1 j2 => (hg j j1 (by omega)).symm) fr_rf
  | h, this, n + 1, r, h1, h2, g, ar, hg, k => by
    refine ax_iload_n f41_43 rfl ?_
    refine ax_bipush f41_44 ?_
    refine ax_icmp_ge f41_46 rfl ⟨by omega, by omega⟩ ⟨by omega, by omega⟩ (fun q46 => absurd q46 (by omega)) (fun q46 => ?_)
    refine ax_aload_n f41_49 rfl ?_
    refine ax_getf f41_50 this rfl ?_
    refine ax_iload_n f41_53 rfl ?_
    refine ax_iconst f41_54 ?_
    refine ax_iastO f41_55 ar (by omega) (by omega) rfl (fun hp1 o1 r1 => ?_)
    refine ax_iinc (ls' := [_, _]) f41_56 rfl (Nat.le_of_ble_eq_true rfl) rfl ?_
    refine ax_goto f41_59 rfl ?_
    refine lp_41 (r1.at (by omega) this) n (r + 1) (by omega) (by omega) _ o1 ?_ ?_
    · intro j j1 j2
      unfold uZ
      split
      · rfl
      · exact hg j j1 (by omega)
    · intro h9 a9 f9
      exact k h9 a9 (r1.trans f9)
theorem c_41 {h : am_H} {p : Nat} (hl : h.1.length = p + 1) (this : h.1[p]? = some (.inr (3, [.null, .null, .null, .null, .long 0, .long 0, .long 0, .int 0, .int 0, .int 0, .int 0, .int 0]))) : am_X 0 41 0 (am_ent 41 [.ref p]) [] h (fun r h' => rV r ∧ Mead h' p beg ∧ gw h h' p 4 120) := by
  show am_X 0 41 0 [.ref p, am_u] [] h _
  have Wg : gw h h p 0 0 := gw.rf
  refine ax_aload_n f41_0 rfl ?_
  refine ax_objinit f41_1 (Nat.le_of_ble_eq_true rfl) ?_
  refine ax_aload_n f41_4 rfl ?_
  refine ax_bipush f41_5 ?_
  refine ax_nwaO f41_7 (by omega) (by omega) rfl rfl hl (fun h1 o1 w1 => ?_)
  have hl : h1.1.length = p + 2 := by have := w1.2.1; omega
  have this := w1.at (by omega) this
  have Wg := Wg.tr (w1.lo (by omega))
  have b1 := oA_0 o1
  refine ax_putfO f41_9 this rfl rfl rfl rfl (fun h2 o2 r2 => ?_)
  have hl : h2.1.length = p + 2 := r2.1.trans hl
  have b1 := b1.fr r2 (by omega)
  have Wg := Wg.tr (gw_fr r2 (by omega))
  have this := o2
  refine ax_aload_n f41_12 rfl ?_
  refine ax_bipush f41_13 ?_
  refine ax_nwaO f41_15 (by omega) (by omega) rfl rfl hl (fun h3 o3 w3 => ?_)
  have hl : h3.1.length = p + 3 := by have := w3.2.1; omega
  have this := w3.at (by omega) this
  have b1 := b1.gw w3 (by omega)
  have Wg := Wg.tr (w3.lo (by omega))
  have b2 := oA_0 o3
  refine ax_putfO f41_17 this rfl rfl rfl rfl (fun h4 o4 r4 => ?_)
  have hl : h4.1.length = p + 3 := r4.1.trans hl
  have b1 := b1.fr r4 (by omega)
  have b2 := b2.fr r4 (by omega)
  have Wg := Wg.tr (gw_fr r4 (by omega))
  have this := o4
  refine ax_aload_n f41_20 rfl ?_
  refine ax_bipush f41_21 ?_
  refine ax_nwaO f41_23 (by omega) (by omega) rfl rfl hl (fun h5 o5 w5 => ?_)
  have hl : h5.1.length = p + 4 := by have := w5.2.1; omega
  have this := w5.at (by omega) this
  have b1 := b1.gw w5 (by omega)
  have b2 := b2.gw w5 (by omega)
  have Wg := Wg.tr (w5.lo (by omega))
  have b3 := oA_0 o5
  refine ax_putfO f41_25 this rfl rfl rfl rfl (fun h6 o6 r6 => ?_)
  have hl : h6.1.length = p + 4 := r6.1.trans hl
  have b1 := b1.fr r6 (by omega)
  have b2 := b2.fr r6 (by omega)
  have b3 := b3.fr r6 (by omega)
  have Wg := Wg.tr (gw_fr r6 (by omega))
  have this := o6
  refine ax_aload_n f41_28 rfl ?_
  refine ax_bipush f41_29 ?_
  refine ax_nwaO f41_31 (by omega) (by omega) rfl rfl hl (fun h7 o7 w7 => ?_)
  have hl : h7.1.length = p + 5 := by have := w7.2.1; omega
  have this := w7.at (by omega) this
  have b1 := b1.gw w7 (by omega)
  have b2 := b2.gw w7 (by omega)
  have b3 := b3.gw w7 (by omega)
  have Wg := Wg.tr (w7.lo (by omega))
  have b4 := oA_0 o7
  refine ax_putfO f41_33 this rfl rfl rfl rfl (fun h8 o8 r8 => ?_)
  have hl : h8.1.length = p + 5 := r8.1.trans hl
  have b1 := b1.fr r8 (by omega)
  have b2 := b2.fr r8 (by omega)
  have b3 := b3.fr r8 (by omega)
  have b4 := b4.fr r8 (by omega)
  have Wg := Wg.tr (gw_fr r8 (by omega))
  have this := o8
  refine ax_aload_n f41_36 rfl ?_
  refine ax_iconst f41_37 ?_
  refine ax_putfO f41_38 this rfl rfl rfl rfl (fun h9 o9 r9 => ?_)
  have hl : h9.1.length = p + 5 := r9.1.trans hl
  have b1 := b1.fr r9 (by omega)
  have b2 := b2.fr r9 (by omega)
  have b3 := b3.fr r9 (by omega)
  have b4 := b4.fr r9 (by omega)
  have Wg := Wg.tr (gw_fr r9 (by omega))
  have this := o9
  refine ax_iconst f41_41 ?_
  refine ax_istore_n (ls' := [_, _]) f41_42 (Nat.le_of_ble_eq_true rfl) rfl ?_
  refine lp_41 this 48 0 (by omega) (by omega) _ b1 (fun j j1 j2 => by omega) ?_
  intro h9 a9 f9
  refine ax_return f41_62 rfl ?_
  have this := f9.at (q := p) (by omega) this
  have b2 := b2.fr f9 (by omega)
  have b3 := b3.fr f9 (by omega)
  have b4 := b4.fr f9 (by omega)
  have Wg := Wg.tr (gw_fr f9 (by omega))
  have bz : ∀ j, 48 ≤ j → j < 269 → beg j = 0 := fun j j1 j2 => by unfold beg; rw [if_neg (by omega), if_neg (by omega)]
  refine ⟨rfl, ⟨Mo_eq this (Mfs_mk (lB_z fun j j1 j2 => bz _ (by omega) (by omega)) (lB_z fun j j1 j2 => bz _ (by omega) (by omega)) (lB_z fun j j1 j2 => bz _ (by omega) (by omega)) (by rw [bz 192 (by omega) (by omega)]; rfl) (by rfl) (by rw [bz 217 (by omega) (by omega)]; rfl) (by rw [bz 267 (by omega) (by omega)]; rfl) (by rw [bz 268 (by omega) (by omega)]; rfl)), ?_, ?_, ?_, ?_⟩, Wg.cg rfl rfl⟩
  · exact a9.eq fun j j1 j2 => by unfold beg; rw [if_pos (by omega)]
  · exact b2.eq fun j j1 j2 => bz _ (by omega) (by omega)
  · exact b3.eq fun j j1 j2 => bz _ (by omega) (by omega)
  · exact b4.eq fun j j1 j2 => bz _ (by omega) (by omega)
theorem c_27 {h : am_H} {p : Nat} (hl : h.1.length = p + 1) (this : h.1[p]? = some (.inr (1, [.null, .null]))) : am_X 2 27 0 (am_ent 27 [.ref p]) [] h (fun r h' => rV r ∧ Herd h' p beg ∧ gw h h' p 8 186) := by
  show am_X 2 27 0 [.ref p] [] h _
  have Wg : gw h h p 0 0 := gw.rf
  refine ax_aload_n f27_0 rfl ?_
  refine ax_objinit f27_1 (Nat.le_of_ble_eq_true rfl) ?_
  refine ax_aload_n f27_4 rfl ?_
  refine ax_newO f27_5 rfl hl (fun h1 o1 w1 => ?_)
  have hl : h1.1.length = p + 2 := by have := w1.2.1; omega
  have this := w1.at (by omega) this
  have Wg := Wg.tr (w1.lo (by omega))
  refine ax_dup f27_8 rfl ?_
  refine ax_ciV (rest := [_, _]) f27_9 (Or.inl rfl) rfl rfl rfl rfl rfl rfl (c_41 hl o1) ?_
  rintro h2 ⟨mA, w2⟩
  have hl : h2.1.length = p + 6 := by have := w2.2.1; omega
  have this := w2.at (by omega) this
  have Wg := Wg.tr (w2.lo (by omega))
  refine ax_putfO f27_12 this rfl rfl rfl rfl (fun h3 o3 r3 => ?_)
  have hl : h3.1.length = p + 6 := r3.1.trans hl
  have mA := mA.fr r3 (fun q q1 q2 => by omega)
  have Wg := Wg.tr (gw_fr r3 (by omega))
  have this := o3
  refine ax_aload_n f27_15 rfl ?_
  refine ax_newO f27_16 rfl hl (fun h4 o4 w4 => ?_)
  have hl : h4.1.length = p + 7 := by have := w4.2.1; omega
  have this := w4.at (by omega) this
  have mA := mA.gw w4 (by omega)
  have Wg := Wg.tr (w4.lo (by omega))
  refine ax_dup f27_19 rfl ?_
  refine ax_ciV (rest := [_, _]) f27_20 (Or.inr rfl) rfl rfl rfl rfl rfl rfl (c_80 hl o4) ?_
  rintro h5 ⟨sA, w5⟩
  have hl : h5.1.length = p + 9 := by have := w5.2.1; omega
  have this := w5.at (by omega) this
  have mA := mA.gw w5 (by omega)
  have Wg := Wg.tr (w5.lo (by omega))
  refine ax_putfO f27_23 this rfl rfl rfl rfl (fun h6 o6 r6 => ?_)
  have hl : h6.1.length = p + 9 := r6.1.trans hl
  have mA := mA.fr r6 (fun q q1 q2 => by omega)
  have sA := sA.fr r6 (fun x x1 x2 => by omega)
  have Wg := Wg.tr (gw_fr r6 (by omega))
  have this := o6
  refine ax_return f27_26 rfl ?_
  exact ⟨rfl, ⟨this, mA, sA⟩, Wg.cg rfl rfl⟩
theorem lp_36 {d s : Nat} {Q : am_R → am_H → Prop} : ∀ (n r : Nat) {h : am_H}, r + n = 14 → ∀ (f : Nat → Option Nat) (this : h.1[s]? = some (.inr (2, [.ref (s + 1), .int 0, .int 0]))) (o2 : h.1[s + 1]? = some (.inl (4, 14, .inr (.inr (.inr (.inr f)))))) (fe : ∀ i : Nat, i < r → f i = some (s + 2 + 5 * i)) (me : ∀ i : Nat, i < r → Mead h (s + 2 + 5 * i) beg) (hl : h.1.length = s + 2 + 5 * r), (∀ (h' : am_H) (f' : Nat → Option Nat), h'.1[s]? = some (.inr (2, [.ref (s + 1), .int 0, .int 0])) → h'.1[s + 1]? = some (.inl (4, 14, .inr (.inr (.inr (.inr f'))))) → (∀ i : Nat, i < 14 → f' i = some (s + 2 + 5 * i)) → (∀ i : Nat, i < 14 → Mead h' (s + 2 + 5 * i) beg) → h'.1.length = s + 2 + 5 * 14 → gw h h' s (5 * n) (132 * n) → am_X (d + 1) 36 40 [.ref s, .int (iI 14)] [] h' Q) → am_X (d + 1) 36 15 [.ref s, .int (iI (r : Int))] [] h Q
  | 0, r, h, h1, f, this, o2, fe, me, hl, k => by
    have h1 : r = 14 := by omega
    subst h1
    refine ax_iload_n f36_15 rfl ?_
    refine ax_bipush f36_16 ?_
    refine ax_icmp_ge f36_18 rfl ⟨by omega, by omega⟩ ⟨by omega, by omega⟩ (fun q18 => ?_) (fun q18 => absurd q18 (by omega))
    exact k h f this o2 fe me hl gw.rf
  | n + 1, r, h, h1, f, this, o2, fe, me, hl, k => by
    refine ax_iload_n f36_15 rfl ?_
    refine ax_bipush f36_16 ?_
    refine ax_icmp_ge f36_18 rfl ⟨by omega, by omega⟩ ⟨by omega, by omega⟩ (fun q => absurd q (by omega)) (fun q => ?_)
    refine ax_aload_n f36_21 rfl ?_
    refine ax_getf f36_22 this rfl ?_
    refine ax_iload_n f36_25 rfl ?_
    refine ax_newO f36_26 rfl hl (fun h1 o1 w1 => ?_)
    have hl1 : h1.1.length = s + 2 + 5 * r + 1 := by have := w1.2.1; omega
    refine ax_dup f36_29 rfl ?_
    refine ax_ciV (rest := [_, _, _]) f36_30 (Or.inl rfl) rfl rfl rfl rfl rfl rfl (c_41 hl1 o1) ?_
    rintro h2 ⟨mA, w2⟩
    have hl2 : h2.1.length = s + 2 + 5 * (r + 1) := by have := w2.2.1; omega
    have W2 := (w1.lo (show s + 2 + 5 * r ≤ s + 2 + 5 * r by omega)).tr (w2.lo (by omega))
    have this := W2.at (show s < s + 2 + 5 * r by omega) this
    have o2 := W2.at (show s + 1 < s + 2 + 5 * r by omega) o2
    have me : ∀ i : Nat, i < r → Mead h2 (s + 2 + 5 * i) beg := fun i hi => (me i hi).gw W2 (by omega)
    refine ax_aast f36_33 o2 mA.1 (by omega) (by omega) (by decide) ?_
    rw [Int.toNat_natCast]
    have r3 := fr_w (h := h2) (q := s + 1) (e := .inl (4, 14, .inr (.inr (.inr (.inr (va_up f r (some (s + 2 + 5 * r))))))))
    have o3 := am_w_at (e := .inl (4, 14, .inr (.inr (.inr (.inr (va_up f r (some (s + 2 + 5 * r)))))))) o2
    generalize am_w h2 (s + 1) _ = h3 at r3 o3 ⊢
    have this := r3.at (q := s) (by omega) this
    have me : ∀ i : Nat, i < r + 1 → Mead h3 (s + 2 + 5 * i) beg := fun i hi => by
      by_cases e : i = r
      · rw [e]; exact mA.fr r3 (fun q q1 q2 => by omega)
      · exact (me i (by omega)).fr r3 (fun q q1 q2 => by omega)
    have hl3 : h3.1.length = s + 2 + 5 * (r + 1) := r3.1.trans hl2
    refine ax_iinc (ls' := [_, .int (iI ((r + 1 : Nat) : Int))]) f36_34 rfl (Nat.le_of_ble_eq_true rfl) (by rw [Int.natCast_add]; rfl) ?_
    refine ax_goto f36_37 rfl ?_
    refine lp_36 n (r + 1) (by omega) _ this o3 ?_ me hl3 ?_
    · intro i hi
      unfold va_up
      by_cases e : i = r
      · rw [if_pos e, e]
      · rw [if_neg e]
        exact fe i (by omega)
    · intro h9 f9 t9 o9 fe9 me9 hl9 w9
      refine k h9 f9 t9 o9 fe9 me9 hl9 (((W2.lo (by omega)).tr ((gw_fr r3 (by omega)).tr w9)).cg (by omega) (by omega))
theorem lp_86 {d s : Nat} {Q : am_R → am_H → Prop} : ∀ (n r : Nat) {h : am_H}, r + n = 2 → ∀ (f : Nat → Option Nat) (this : h.1[s]? = some (.inr (6, [.ref (s + 1), .ref (s + 2)]))) (o2 : h.1[s + 1]? = some (.inl (4, 2, .inr (.inr (.inr (.inr f)))))) (ob : oA 2 h (s + 2) 2 (fun _ => 0)) (fe : ∀ i : Nat, i < r → f i = some (s + 3 + 5 * i)) (me : ∀ i : Nat, i < r → Mead h (s + 3 + 5 * i) beg) (hl : h.1.length = s + 3 + 5 * r), (∀ (h' : am_H) (f' : Nat → Option Nat), h'.1[s]? = some (.inr (6, [.ref (s + 1), .ref (s + 2)])) → h'.1[s + 1]? = some (.inl (4, 2, .inr (.inr (.inr (.inr f'))))) → oA 2 h' (s + 2) 2 (fun _ => 0) → (∀ i : Nat, i < 2 → f' i = some (s + 3 + 5 * i)) → (∀ i : Nat, i < 2 → Mead h' (s + 3 + 5 * i) beg) → h'.1.length = s + 3 + 5 * 2 → gw h h' s (5 * n) (132 * n) → am_X (d + 1) 86 45 [.ref s, .int (iI 2)] [] h' Q) → am_X (d + 1) 86 21 [.ref s, .int (iI (r : Int))] [] h Q
  | 0, r, h, h1, f, this, o2, ob, fe, me, hl, k => by
    have h1 : r = 2 := by omega
    subst h1
    refine ax_iload_n f86_21 rfl ?_
    refine ax_iconst f86_22 ?_
    refine ax_icmp_ge f86_23 rfl ⟨by omega, by omega⟩ ⟨by omega, by omega⟩ (fun q23 => ?_) (fun q23 => absurd q23 (by omega))
    exact k h f this o2 ob fe me hl gw.rf
  | n + 1, r, h, h1, f, this, o2, ob, fe, me, hl, k => by
    refine ax_iload_n f86_21 rfl ?_
    refine ax_iconst f86_22 ?_
    refine ax_icmp_ge f86_23 rfl ⟨by omega, by omega⟩ ⟨by omega, by omega⟩ (fun q => absurd q (by omega)) (fun q => ?_)
    refine ax_aload_n f86_26 rfl ?_
    refine ax_getf f86_27 this rfl ?_
    refine ax_iload_n f86_30 rfl ?_
    refine ax_newO f86_31 rfl hl (fun h1 o1 w1 => ?_)
    have hl1 : h1.1.length = s + 3 + 5 * r + 1 := by have := w1.2.1; omega
    refine ax_dup f86_34 rfl ?_
    refine ax_ciV (rest := [_, _, _]) f86_35 (Or.inl rfl) rfl rfl rfl rfl rfl rfl (c_41 hl1 o1) ?_
    rintro h2 ⟨mA, w2⟩
    have hl2 : h2.1.length = s + 3 + 5 * (r + 1) := by have := w2.2.1; omega
    have W2 := (w1.lo (show s + 3 + 5 * r ≤ s + 3 + 5 * r by omega)).tr (w2.lo (by omega))
    have this := W2.at (show s < s + 3 + 5 * r by omega) this
    have o2 := W2.at (show s + 1 < s + 3 + 5 * r by omega) o2
    have me : ∀ i : Nat, i < r → Mead h2 (s + 3 + 5 * i) beg := fun i hi => (me i hi).gw W2 (by omega)
    have ob := ob.gw W2 (by omega)
    refine ax_aast f86_38 o2 mA.1 (by omega) (by omega) (by decide) ?_
    rw [Int.toNat_natCast]
    have r3 := fr_w (h := h2) (q := s + 1) (e := .inl (4, 2, .inr (.inr (.inr (.inr (va_up f r (some (s + 3 + 5 * r))))))))
    have o3 := am_w_at (e := .inl (4, 2, .inr (.inr (.inr (.inr (va_up f r (some (s + 3 + 5 * r)))))))) o2
    generalize am_w h2 (s + 1) _ = h3 at r3 o3 ⊢
    have this := r3.at (q := s) (by omega) this
    have me : ∀ i : Nat, i < r + 1 → Mead h3 (s + 3 + 5 * i) beg := fun i hi => by
      by_cases e : i = r
      · rw [e]; exact mA.fr r3 (fun q q1 q2 => by omega)
      · exact (me i (by omega)).fr r3 (fun q q1 q2 => by omega)
    have ob := ob.fr r3 (by omega)
    have hl3 : h3.1.length = s + 3 + 5 * (r + 1) := r3.1.trans hl2
    refine ax_iinc (ls' := [_, .int (iI ((r + 1 : Nat) : Int))]) f86_39 rfl (Nat.le_of_ble_eq_true rfl) (by rw [Int.natCast_add]; rfl) ?_
    refine ax_goto f86_42 rfl ?_
    refine lp_86 n (r + 1) (by omega) _ this o3 ob ?_ me hl3 ?_
    · intro i hi
      unfold va_up
      by_cases e : i = r
      · rw [if_pos e, e]
      · rw [if_neg e]
        exact fe i (by omega)
    · intro h9 f9 t9 o9 ob9 fe9 me9 hl9 w9
      refine k h9 f9 t9 o9 ob9 fe9 me9 hl9 (((W2.lo (by omega)).tr ((gw_fr r3 (by omega)).tr w9)).cg (by omega) (by omega))
theorem c_36 {h : am_H} {p : Nat} {S : Int → Int → Int} (hl : h.1.length = p + 1) (this : h.1[p]? = some (.inr (2, [.null, .int 0, .int 0]))) : am_X 1 36 0 (am_ent 36 [.ref p]) [] h (fun r h' => rV r ∧ Hist h' p S 0 ∧ gw h h' p 71 1862) := by
  show am_X 1 36 0 [.ref p, am_u] [] h _
  have Wg : gw h h p 0 0 := gw.rf
  refine ax_aload_n f36_0 rfl ?_
  refine ax_objinit f36_1 (Nat.le_of_ble_eq_true rfl) ?_
  refine ax_aload_n f36_4 rfl ?_
  refine ax_bipush f36_5 ?_
  refine ax_nwrO f36_7 (by omega) (by omega) rfl rfl hl (fun h1 o1 w1 => ?_)
  have hl : h1.1.length = p + 2 := by have := w1.2.1; omega
  have this := w1.at (by omega) this
  have Wg := Wg.tr (w1.lo (by omega))
  have oar := o1
  refine ax_putfO f36_10 this rfl rfl rfl rfl (fun h2 o2 r2 => ?_)
  have hl : h2.1.length = p + 2 := r2.1.trans hl
  have oar := r2.at (q := p + 1) (by omega) oar
  have Wg := Wg.tr (gw_fr r2 (by omega))
  have this := o2
  refine ax_iconst f36_13 ?_
  refine ax_istore_n (ls' := [_, _]) f36_14 (Nat.le_of_ble_eq_true rfl) rfl ?_
  refine lp_36 (d := 0) 14 0 (by omega) _ this oar (fun i hi => by omega) (fun i hi => by omega) hl ?_
  intro h9 f9 t9 o9 fe9 me9 hl9 w9
  refine ax_return f36_40 rfl ?_
  exact ⟨rfl, ⟨0, fun _ => beg, f9, t9, by omega, ⟨o9, fe9⟩, me9, fun k k1 k2 => by omega⟩, (Wg.tr w9).cg rfl rfl⟩
theorem c_86 {h : am_H} {p : Nat} (hl : h.1.length = p + 1) (this : h.1[p]? = some (.inr (6, [.null, .null]))) : am_X 1 86 0 (am_ent 86 [.ref p]) [] h (fun r h' => rV r ∧ Slot h' p (fun _ => beg) (fun _ => 0) ∧ gw h h' p 12 268) := by
  show am_X 1 86 0 [.ref p, am_u] [] h _
  have Wg : gw h h p 0 0 := gw.rf
  refine ax_aload_n f86_0 rfl ?_
  refine ax_objinit f86_1 (Nat.le_of_ble_eq_true rfl) ?_
  refine ax_aload_n f86_4 rfl ?_
  refine ax_iconst f86_5 ?_
  refine ax_nwrO f86_6 (by omega) (by omega) rfl rfl hl (fun h1 o1 w1 => ?_)
  have hl : h1.1.length = p + 2 := by have := w1.2.1; omega
  have this := w1.at (by omega) this
  have Wg := Wg.tr (w1.lo (by omega))
  have oar := o1
  refine ax_putfO f86_9 this rfl rfl rfl rfl (fun h2 o2 r2 => ?_)
  have hl : h2.1.length = p + 2 := r2.1.trans hl
  have oar := r2.at (q := p + 1) (by omega) oar
  have Wg := Wg.tr (gw_fr r2 (by omega))
  have this := o2
  refine ax_aload_n f86_12 rfl ?_
  refine ax_iconst f86_13 ?_
  refine ax_nwaO f86_14 (by omega) (by omega) rfl rfl hl (fun h3 o3 w3 => ?_)
  have hl : h3.1.length = p + 3 := by have := w3.2.1; omega
  have this := w3.at (by omega) this
  have oar := w3.at (by omega) oar
  have Wg := Wg.tr (w3.lo (by omega))
  have ob := oA_0 o3
  refine ax_putfO f86_16 this rfl rfl rfl rfl (fun h4 o4 r4 => ?_)
  have hl : h4.1.length = p + 3 := r4.1.trans hl
  have oar := r4.at (q := p + 1) (by omega) oar
  have ob := ob.fr r4 (by omega)
  have Wg := Wg.tr (gw_fr r4 (by omega))
  have this := o4
  refine ax_iconst f86_19 ?_
  refine ax_istore_n (ls' := [_, _]) f86_20 (Nat.le_of_ble_eq_true rfl) rfl ?_
  refine lp_86 (d := 0) 2 0 (by omega) _ this oar ob (fun i hi => by omega) (fun i hi => by omega) hl ?_
  intro h9 f9 t9 o9 ob9 fe9 me9 hl9 w9
  refine ax_return f86_45 rfl ?_
  exact ⟨rfl, ⟨f9, t9, ⟨o9, fe9⟩, ob9, fun j _ _ => Or.inl rfl, me9⟩, (Wg.tr w9).cg rfl rfl⟩
end INI
