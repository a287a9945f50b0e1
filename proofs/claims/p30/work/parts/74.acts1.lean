/-! ===== actions, on the class and on the law's own numbers ===== -/
section ACT
theorem oA.eqI {t : Nat} {h : am_H} {q n : Nat} {g g' : Int → Int} (a : oA t h q n g) (e : ∀ j : Int, 0 ≤ j → j < n → iI (g' j) = iI (g j)) : oA t h q n g' := by
  obtain ⟨f, o, c⟩ := a
  exact ⟨f, o, fun j hj => by rw [c j hj, e j (by omega) (by omega)]⟩
/-- class and the law's own numbers in the state R -/
def Lst (h : am_H) (R : Int → Int) : Prop := Lcl h R ∧ oI h 120 48 R ∧ oI h 121 48 (fun j => R (48 + j)) ∧ oI h 122 48 (fun j => R (96 + j)) ∧ oI h 123 48 (fun j => R (144 + j)) ∧ oI h 124 24 (fun j => R (193 + j)) ∧ oI h 125 48 (fun j => R (218 + j)) ∧ oI h 126 6 (nn R)
theorem Lst_mk {h : am_H} {R uw ua ul uf ub ut un : Int → Int} (cl : Lcl h R) (w : oI h 120 48 uw) (a : oI h 121 48 ua) (l : oI h 122 48 ul) (f : oI h 123 48 uf) (b : oI h 124 24 ub) (t : oI h 125 48 ut) (nN : oI h 126 6 un)
    (ew : ∀ j, 0 ≤ j → j < 48 → R j = uw j) (ea : ∀ j, 0 ≤ j → j < 48 → R (48 + j) = ua j) (el : ∀ j, 0 ≤ j → j < 48 → R (96 + j) = ul j) (ef : ∀ j, 0 ≤ j → j < 48 → R (144 + j) = uf j) (eb : ∀ j, 0 ≤ j → j < 24 → R (193 + j) = ub j) (et : ∀ j, 0 ≤ j → j < 48 → R (218 + j) = ut j) (en : ∀ j, 0 ≤ j → j < 6 → iI (nn R j) = iI (un j)) : Lst h R :=
  ⟨cl, w.eq ew, a.eq ea, l.eq el, f.eq ef, b.eq eb, t.eq et, nN.eqI en⟩
theorem nn_cg {R R' : Int → Int} (e : ∀ j, (j = 192 ∨ j = 217 ∨ j = 269 ∨ j = 266 ∨ j = 267 ∨ j = 268) → R' j = R j) (j : Int) : nn R' j = nn R j := by
  unfold nn
  rw [e 192 (by omega), e 217 (by omega), e 269 (by omega), e 266 (by omega), e 267 (by omega), e 268 (by omega)]
theorem c_144 {h : am_H} {R : Int → Int} (L0 : Lst h R) {r0 v : Int} (h0 : 0 ≤ r0 ∧ r0 < 48) (h1 : 1 ≤ v ∧ v ≤ 99) : am_X 4 144 0 (am_ent 144 [.ref 0, .ref 120, .int (iI r0), .int (iI v)]) [] h (fun r h' => rI r 1 ∧ ∃ (R' : Int → Int) (nc ms : Nat), nc ≤ 5 ∧ ms ≤ 256 ∧ Lst h' R' ∧ gx (fun q => q < 127) h h' nc ms) := by
  show am_X 4 144 0 [.ref 0, .ref 120, .int (iI r0), .int (iI v), am_u] [] h _
  obtain ⟨cl, w, a, l, f, b, t, nN⟩ := L0
  have i := cl.i
  have b12 := i.b12
  have b1 := blk_1 i.ff
  have iw := i.wt h0.1 h0.2
  have F : fr (fun q => q < 127) h h := fr_rf
  refine ax_aload_n f144_0 rfl ?_
  refine ax_iload_n f144_1 rfl ?_
  refine ax_ialdO f144_2 (by decide) w (by omega) (by omega) rfl ?_
  refine ax_istore (ls' := [_, _, _, _, _]) f144_3 (Nat.le_of_ble_eq_true rfl) rfl ?_
  refine ax_aload_n f144_5 rfl ?_
  refine ax_iload_n f144_6 rfl ?_
  refine ax_iload_n f144_7 rfl ?_
  refine ax_iastO f144_8 w (by omega) (by omega) rfl (fun hp1 o1 r1 => ?_)
  have cl := cl.fr r1 (fun q hq => by omega)
  have w := o1
  have a := a.fr r1 (by omega)
  have l := l.fr r1 (by omega)
  have f := f.fr r1 (by omega)
  have b := b.fr r1 (by omega)
  have t := t.fr r1 (by omega)
  have nN := nN.fr r1 (by omega)
  have F := F.trans (r1.mono fun x e => by omega)
  refine ax_aload_n f144_9 rfl ?_
  refine ax_iload_n f144_10 rfl ?_
  refine ax_iload_n f144_11 rfl ?_
  refine ax_cvI (rest := []) f144_12 cl.o rfl rfl rfl rfl rfl rfl rfl rfl (u_114 cl h0 h1) ?_
  rintro hh2 ⟨cl2, f2⟩
  have cl := cl2
  have w := w.fr f2 (by omega)
  have a := a.fr f2 (by omega)
  have l := l.fr f2 (by omega)
  have f := f.fr f2 (by omega)
  have b := b.fr f2 (by omega)
  have t := t.fr f2 (by omega)
  have nN := nN.fr f2 (by omega)
  have F := F.trans (f2.mono fun x e => by omega)
  refine ax_iload f144_15 rfl ?_
  refine ax_icmp_ne f144_17 rfl ⟨by omega, by omega⟩ ⟨by omega, by omega⟩ (fun q17 => absurd q17 (by omega)) (fun q17 => ?_)
  refine ax_iconst f144_20 ?_
  refine ax_goto f144_21 rfl ?_
  refine ax_ireturn f144_25 rfl rfl ?_
  exact ⟨rfl, uZ R r0 v, 0, 0, by decide, by decide, Lst_mk cl w a l f b t nN (fun j j1 j2 => rfl) (fun j j1 j2 => uZ_n (by omega)) (fun j j1 j2 => uZ_n (by omega)) (fun j j1 j2 => uZ_n (by omega)) (fun j j1 j2 => uZ_n (by omega)) (fun j j1 j2 => uZ_n (by omega)) (fun j j1 j2 => congrArg iI (nn_cg (fun j hj => uZ_n (by omega)) j)), gx_fr F⟩
theorem lp_145 {d : Nat} {Q : am_R → am_H → Prop} {h : am_H} {g : Int → Int} {r0 y : Int} (a : oI h 121 48 g) : ∀ (n : Nat) (r : Int), r + n = 48 → 0 ≤ r → (kk : am_X d 145 32 [.ref 0, .ref 121, .int (iI r0), .int (iI y), .int (iI (sm g 0 48)), .int (iI 48)] [] h Q) → am_X d 145 10 [.ref 0, .ref 121, .int (iI r0), .int (iI y), .int (iI (sm g 0 r.toNat)), .int (iI r)] [] h Q
  | 0, r, h1, h2, kk => by
    have h1 : r = 48 := by omega
    subst h1
    refine ax_iload f145_10 rfl ?_
    refine ax_bipush f145_12 ?_
    refine ax_icmp_ge f145_14 rfl ⟨by omega, by omega⟩ ⟨by omega, by omega⟩ (fun q14 => ?_) (fun q14 => absurd q14 (by omega))
    exact kk
  | n + 1, r, h1, h2, kk => by
    have e1 : sm g 0 r.toNat + g r = sm g 0 (r + 1).toNat := by
      rw [show (r + 1).toNat = r.toNat + 1 by omega, sm_snoc, show (0 : Int) + (r.toNat : Int) = r by omega]
    refine ax_iload f145_10 rfl ?_
    refine ax_bipush f145_12 ?_
    refine ax_icmp_ge f145_14 rfl ⟨by omega, by omega⟩ ⟨by omega, by omega⟩ (fun q14 => absurd q14 (by omega)) (fun q14 => ?_)
    refine ax_iload f145_17 rfl ?_
    refine ax_aload_n f145_19 rfl ?_
    refine ax_iload f145_20 rfl ?_
    refine ax_ialdO f145_22 (by decide) a (by omega) (by omega) rfl ?_
    refine ax_iadd f145_23 ?_
    rw [e1]
    refine ax_istore (ls' := [_, _, _, _, _, _]) f145_24 (Nat.le_of_ble_eq_true rfl) rfl ?_
    refine ax_iinc (ls' := [_, _, _, _, _, _]) f145_26 rfl (Nat.le_of_ble_eq_true rfl) rfl ?_
    refine ax_goto f145_29 rfl ?_
    exact lp_145 a n (r + 1) (by omega) (by omega) kk
theorem c_145 {h : am_H} {R : Int → Int} (L0 : Lst h R) {r0 y : Int} (h0 : 0 ≤ r0 ∧ r0 < 48) (hy : y = 0 ∨ y = 1) : am_X 4 145 0 (am_ent 145 [.ref 0, .ref 121, .int (iI r0), .int (iI y)]) [] h (fun r h' => rI r 1 ∧ ∃ (R' : Int → Int) (nc ms : Nat), nc ≤ 5 ∧ ms ≤ 256 ∧ Lst h' R' ∧ gx (fun q => q < 127) h h' nc ms) := by
  show am_X 4 145 0 [.ref 0, .ref 121, .int (iI r0), .int (iI y), am_u, am_u] [] h _
  obtain ⟨cl, w, a, l, f, b, t, nN⟩ := L0
  have i := cl.i
  have b12 := i.b12
  have b1 := blk_1 i.ff
  have F : fr (fun q => q < 127) h h := fr_rf
  rcases hy with rfl | rfl
  · refine ax_aload_n f145_0 rfl ?_
    refine ax_iload_n f145_1 rfl ?_
    refine ax_iload_n f145_2 rfl ?_
    refine ax_iastO f145_3 a (by omega) (by omega) rfl (fun hp1 o1 r1 => ?_)
    have cl := cl.fr r1 (fun q hq => by omega)
    have w := w.fr r1 (by omega)
    have a := o1
    have l := l.fr r1 (by omega)
    have f := f.fr r1 (by omega)
    have b := b.fr r1 (by omega)
    have t := t.fr r1 (by omega)
    have nN := nN.fr r1 (by omega)
    have F := F.trans (r1.mono fun x e => by omega)
    refine ax_iconst f145_4 ?_
    refine ax_istore (ls' := [_, _, _, _, _, _]) f145_5 (Nat.le_of_ble_eq_true rfl) rfl ?_
    refine ax_iconst f145_7 ?_
    refine ax_istore (ls' := [_, _, _, _, _, _]) f145_8 (Nat.le_of_ble_eq_true rfl) rfl ?_
    have a := a.eq (g' := fun j => uZ R (48 + r0) 0 (48 + j)) (fun j j1 j2 => by
      show uZ R (48 + r0) 0 (48 + j) = uZ (fun j => R (48 + j)) r0 0 j
      unfold uZ
      by_cases c : j = r0
      · rw [if_pos (by omega), if_pos c]
      · rw [if_neg (by omega), if_neg c])
    have s1 := sm01_in (g := fun j => uZ R (48 + r0) 0 (48 + j)) (fun j j1 j2 => by
      have := i.aw j1 j2
      show uZ R (48 + r0) 0 (48 + j) = 0 ∨ uZ R (48 + r0) 0 (48 + j) = 1
      unfold uZ
      split <;> omega) (Nat.le_refl 48)
    refine lp_145 a 48 0 (by omega) (by omega) ?_
    refine ax_aload_n f145_32 rfl ?_
    refine ax_iload_n f145_33 rfl ?_
    refine ax_iload_n f145_34 rfl ?_
    refine ax_iconst f145_35 ?_
    refine ax_icmp_ne f145_36 rfl ⟨by omega, by omega⟩ ⟨by omega, by omega⟩ (fun q36 => ?_) (fun q36 => absurd q36 (by omega))
    refine ax_iconst f145_43 ?_
    refine ax_cvI (rest := []) f145_44 cl.o rfl rfl rfl rfl rfl rfl rfl rfl (u_115 cl h0 (Or.inl rfl)) ?_
    rintro hh1 ⟨cl1, f1⟩
    have cl := cl1
    have w := w.fr f1 (by omega)
    have a := a.fr f1 (by omega)
    have l := l.fr f1 (by omega)
    have f := f.fr f1 (by omega)
    have b := b.fr f1 (by omega)
    have t := t.fr f1 (by omega)
    have nN := nN.fr f1 (by omega)
    have F := F.trans (f1.mono fun x e => by omega)
    refine ax_iload f145_47 rfl ?_
    refine ax_icmp_ne f145_49 rfl ⟨by omega, by omega⟩ ⟨by omega, by omega⟩ (fun q49 => absurd q49 (by omega)) (fun q49 => ?_)
    refine ax_iconst f145_52 ?_
    refine ax_goto f145_53 rfl ?_
    refine ax_ireturn f145_57 rfl rfl ?_
    exact ⟨rfl, uZ R (48 + r0) 0, 0, 0, by decide, by decide, Lst_mk cl w a l f b t nN (fun j j1 j2 => uZ_n (by omega)) (fun j j1 j2 => rfl) (fun j j1 j2 => uZ_n (by omega)) (fun j j1 j2 => uZ_n (by omega)) (fun j j1 j2 => uZ_n (by omega)) (fun j j1 j2 => uZ_n (by omega)) (fun j j1 j2 => congrArg iI (nn_cg (fun j hj => uZ_n (by omega)) j)), gx_fr F⟩
  · refine ax_aload_n f145_0 rfl ?_
    refine ax_iload_n f145_1 rfl ?_
    refine ax_iload_n f145_2 rfl ?_
    refine ax_iastO f145_3 a (by omega) (by omega) rfl (fun hp1 o1 r1 => ?_)
    have cl := cl.fr r1 (fun q hq => by omega)
    have w := w.fr r1 (by omega)
    have a := o1
    have l := l.fr r1 (by omega)
    have f := f.fr r1 (by omega)
    have b := b.fr r1 (by omega)
    have t := t.fr r1 (by omega)
    have nN := nN.fr r1 (by omega)
    have F := F.trans (r1.mono fun x e => by omega)
    refine ax_iconst f145_4 ?_
    refine ax_istore (ls' := [_, _, _, _, _, _]) f145_5 (Nat.le_of_ble_eq_true rfl) rfl ?_
    refine ax_iconst f145_7 ?_
    refine ax_istore (ls' := [_, _, _, _, _, _]) f145_8 (Nat.le_of_ble_eq_true rfl) rfl ?_
    have a := a.eq (g' := fun j => uZ R (48 + r0) 1 (48 + j)) (fun j j1 j2 => by
      show uZ R (48 + r0) 1 (48 + j) = uZ (fun j => R (48 + j)) r0 1 j
      unfold uZ
      by_cases c : j = r0
      · rw [if_pos (by omega), if_pos c]
      · rw [if_neg (by omega), if_neg c])
    have s1 := sm01_in (g := fun j => uZ R (48 + r0) 1 (48 + j)) (fun j j1 j2 => by
      have := i.aw j1 j2
      show uZ R (48 + r0) 1 (48 + j) = 0 ∨ uZ R (48 + r0) 1 (48 + j) = 1
      unfold uZ
      split <;> omega) (Nat.le_refl 48)
    refine lp_145 a 48 0 (by omega) (by omega) ?_
    refine ax_aload_n f145_32 rfl ?_
    refine ax_iload_n f145_33 rfl ?_
    refine ax_iload_n f145_34 rfl ?_
    refine ax_iconst f145_35 ?_
    refine ax_icmp_ne f145_36 rfl ⟨by omega, by omega⟩ ⟨by omega, by omega⟩ (fun q36 => absurd q36 (by omega)) (fun q36 => ?_)
    refine ax_iconst f145_39 ?_
    refine ax_goto f145_40 rfl ?_
    refine ax_cvI (rest := []) f145_44 cl.o rfl rfl rfl rfl rfl rfl rfl rfl (u_115 cl h0 (Or.inr rfl)) ?_
    rintro hh1 ⟨cl1, f1⟩
    have cl := cl1
    have w := w.fr f1 (by omega)
    have a := a.fr f1 (by omega)
    have l := l.fr f1 (by omega)
    have f := f.fr f1 (by omega)
    have b := b.fr f1 (by omega)
    have t := t.fr f1 (by omega)
    have nN := nN.fr f1 (by omega)
    have F := F.trans (f1.mono fun x e => by omega)
    refine ax_iload f145_47 rfl ?_
    refine ax_icmp_ne f145_49 rfl ⟨by omega, by omega⟩ ⟨by omega, by omega⟩ (fun q49 => absurd q49 (by omega)) (fun q49 => ?_)
    refine ax_iconst f145_52 ?_
    refine ax_goto f145_53 rfl ?_
    refine ax_ireturn f145_57 rfl rfl ?_
    exact ⟨rfl, uZ R (48 + r0) 1, 0, 0, by decide, by decide, Lst_mk cl w a l f b t nN (fun j j1 j2 => uZ_n (by omega)) (fun j j1 j2 => rfl) (fun j j1 j2 => uZ_n (by omega)) (fun j j1 j2 => uZ_n (by omega)) (fun j j1 j2 => uZ_n (by omega)) (fun j j1 j2 => uZ_n (by omega)) (fun j j1 j2 => congrArg iI (nn_cg (fun j hj => uZ_n (by omega)) j)), gx_fr F⟩
theorem lp_20 {d : Nat} : ∀ (n : Nat) (r : Int) {h : am_H} {g : Int → Int} (b : oI h 124 24 g) (h1 : r + n = 24) (h2 : 0 ≤ r), am_X d 20 6 [.ref 124, .ref 126, .int (iI r)] [] h (fun r' h' => rV r' ∧ oI h' 124 24 (fun j => if r ≤ j then 0 else g j) ∧ fr (fun q => q = 124) h h')
  | 0, r, h, g, b, h1, h2 => by
    have h1 : r = 24 := by omega
    subst h1
    refine ax_iload_n f20_6 rfl ?_
    refine ax_bipush f20_7 ?_
    refine ax_icmp_ge f20_9 rfl ⟨by omega, by omega⟩ ⟨by omega, by omega⟩ (fun q9 => ?_) (fun q9 => absurd q9 (by omega))
    refine ax_return f20_22 rfl ?_
    exact ⟨rfl, b.eq (fun j j1 j2 => by rw [if_neg (by omega)]), fr_rf⟩
  | n + 1, r, h, g, b, h1, h2 => by
    refine ax_iload_n f20_6 rfl ?_
    refine ax_bipush f20_7 ?_
    refine ax_icmp_ge f20_9 rfl ⟨by omega, by omega⟩ ⟨by omega, by omega⟩ (fun q9 => absurd q9 (by omega)) (fun q9 => ?_)
    refine ax_aload_n f20_12 rfl ?_
    refine ax_iload_n f20_13 rfl ?_
    refine ax_iconst f20_14 ?_
    refine ax_iastO f20_15 b (by omega) (by omega) rfl (fun hp1 o1 r1 => ?_)
    have b := o1
    refine ax_iinc (ls' := [_, _, _]) f20_16 rfl (Nat.le_of_ble_eq_true rfl) rfl ?_
    refine ax_goto f20_19 rfl ?_
    refine am_X_mono (lp_20 n (r + 1) b (by omega) (by omega)) (Nat.le_refl _) (fun r' h' z => ⟨z.1, z.2.1.eq (fun j j1 j2 => ?_), r1.trans z.2.2⟩)
    unfold uZ
    by_cases c : j = r
    · rw [if_pos (by omega), if_neg (by omega), if_pos c]
    · by_cases c2 : r ≤ j
      · rw [if_pos c2, if_pos (by omega)]
      · rw [if_neg c2, if_neg (by omega), if_neg c]
theorem c_20 {h : am_H} {g g2 : Int → Int} (b : oI h 124 24 g) (nN : oI h 126 6 g2) : am_X 0 20 0 (am_ent 20 [.ref 124, .ref 126]) [] h (fun r h' => rV r ∧ oI h' 124 24 (fun _ => 0) ∧ oI h' 126 6 (uZ g2 0 0) ∧ fr (fun q => q = 124 ∨ q = 126) h h') := by
  show am_X 0 20 0 [.ref 124, .ref 126, am_u] [] h _
  refine ax_aload_n f20_0 rfl ?_
  refine ax_iconst f20_1 ?_
  refine ax_iconst f20_2 ?_
  refine ax_iastO f20_3 nN (by omega) (by omega) rfl (fun hp1 o1 r1 => ?_)
  have b := b.fr r1 (by omega)
  have nN := o1
  refine ax_iconst f20_4 ?_
  refine ax_istore_n (ls' := [_, _, _]) f20_5 (Nat.le_of_ble_eq_true rfl) rfl ?_
  refine am_X_mono (lp_20 24 0 b (by omega) (by omega)) (Nat.le_refl _) (fun r' h' z => ⟨z.1, z.2.1.eq (fun j j1 j2 => by rw [if_pos j1]), nN.fr z.2.2 (by omega), (r1.mono fun x e => Or.inr e).trans (z.2.2.mono fun x e => Or.inl e)⟩)
theorem sfe_lo {R : Int → Int} {r y j : Int} (h0 : 0 ≤ r) (h1 : r < 48) (h : j < 144 ∨ 217 ≤ j) : sfe R r y j = R j := by
  unfold sfe
  split
  · rfl
  · unfold frg
    rw [if_neg (by omega), uZ_n (by omega)]
theorem sfe_f {R : Int → Int} {r y j : Int} (h2 : 0 ≤ j) (h3 : j < 48) : sfe R r y (144 + j) = uZ (fun j => R (144 + j)) r y j := by
  unfold sfe
  by_cases c0 : R (144 + r) = y
  · rw [if_pos c0]
    show R (144 + j) = (if j = r then y else R (144 + j))
    by_cases c : j = r
    · rw [if_pos c, c, c0]
    · rw [if_neg c]
  · rw [if_neg c0]
    unfold frg
    rw [if_neg (by omega)]
    show (if 144 + j = 144 + r then y else R (144 + j)) = (if j = r then y else R (144 + j))
    by_cases c : j = r
    · rw [if_pos (by omega), if_pos c]
    · rw [if_neg (by omega), if_neg c]
theorem sfe_0 {R : Int → Int} {r y j : Int} (c : ¬ R (144 + r) = y) (h : 192 ≤ j ∧ j < 217) : sfe R r y j = 0 := by
  unfold sfe
  rw [if_neg c]
  unfold frg
  rw [if_pos h]
theorem nn_0 {R R' : Int → Int} (e : ∀ j, (j = 217 ∨ j = 269 ∨ j = 266 ∨ j = 267 ∨ j = 268) → R' j = R j) {v : Int} (e0 : R' 192 = v) (j : Int) : nn R' j = uZ (nn R) 0 v j := by
  show nn R' j = (if j = 0 then v else nn R j)
  unfold nn
  rw [e0, e 217 (by omega), e 269 (by omega), e 266 (by omega), e 267 (by omega), e 268 (by omega)]
  by_cases c : j = 0
  · rw [if_pos c, if_pos c]
  · rw [if_neg c, if_neg c, if_neg c]
theorem c_21 {h : am_H} {R : Int → Int} (L0 : Lst h R) {r0 y : Int} (h0 : 1 ≤ r0 ∧ r0 < 48) (hy : y = 0 ∨ y = 1) : am_X 5 21 0 (am_ent 21 [.ref 0, .ref 123, .ref 124, .ref 126, .int (iI r0), .int (iI y)]) [] h (fun r h' => rI r 1 ∧ ∃ (R' : Int → Int) (nc ms : Nat), nc ≤ 5 ∧ ms ≤ 256 ∧ Lst h' R' ∧ gx (fun q => q < 127) h h' nc ms) := by
  show am_X 5 21 0 [.ref 0, .ref 123, .ref 124, .ref 126, .int (iI r0), .int (iI y)] [] h _
  obtain ⟨cl, w, a, l, f, b, t, nN⟩ := L0
  have i := cl.i
  have b12 := i.b12
  have b1 := blk_1 i.ff
  have F : fr (fun q => q < 127) h h := fr_rf
  have ff := i.fe (r := r0) (by omega) (by omega)
  have K58 : ∀ {h1 : am_H}, Lcl h1 R → oI h1 120 48 R → oI h1 121 48 (fun j => R (48 + j)) → oI h1 122 48 (fun j => R (96 + j)) → oI h1 123 48 (fun j => sfe R r0 y (144 + j)) → oI h1 124 24 (fun j => sfe R r0 y (193 + j)) → oI h1 125 48 (fun j => R (218 + j)) → oI h1 126 6 (nn (sfe R r0 y)) → fr (fun q => q < 127) h h1 → (y = 0 ∨ R (144 + r0) = 1 ∨ blk R ≤ 11) → am_X 5 21 58 [.ref 0, .ref 123, .ref 124, .ref 126, .int (iI r0), .int (iI y)] [] h1 (fun r h' => rI r 1 ∧ ∃ (R' : Int → Int) (nc ms : Nat), nc ≤ 5 ∧ ms ≤ 256 ∧ Lst h' R' ∧ gx (fun q => q < 127) h h' nc ms) := by
    intro h1 cl w a l f b t nN F hc
    refine ax_aload_n f21_58 rfl ?_
    refine ax_iload f21_59 rfl ?_
    refine ax_iload f21_61 rfl ?_
    refine ax_iconst f21_63 ?_
    refine ax_icmp_ne f21_64 rfl ⟨by omega, by omega⟩ ⟨by omega, by omega⟩ (fun q64 => ?_) (fun q64 => ?_)
    · obtain rfl : y = 0 := by omega
      refine ax_iconst f21_71 ?_
      refine ax_cvI (rest := []) f21_72 cl.o rfl rfl rfl rfl rfl rfl rfl rfl (u_116 cl h0 (Or.inl rfl) (Or.inl rfl)) ?_
      rintro hh1 ⟨cl1, f1⟩
      have cl := cl1
      have w := w.fr f1 (by omega)
      have a := a.fr f1 (by omega)
      have l := l.fr f1 (by omega)
      have f := f.fr f1 (by omega)
      have b := b.fr f1 (by omega)
      have t := t.fr f1 (by omega)
      have nN := nN.fr f1 (by omega)
      have F := F.trans (f1.mono fun x e => by omega)
      have iN := cl.i
      have n12 := iN.b12
      have n1 := blk_1 iN.ff
      refine ax_aload_n f21_75 rfl ?_
      refine ax_csI (rest := [_]) f21_76 (Or.inl rfl) rfl rfl rfl rfl rfl rfl (c_3 (R := sfe R r0 0) f) ?_
      intro _ e_
      obtain rfl := e_.symm
      clear e_
      refine ax_icmp_ne f21_79 rfl ⟨by omega, by omega⟩ ⟨by omega, by omega⟩ (fun q79 => absurd q79 (by omega)) (fun q79 => ?_)
      refine ax_iconst f21_82 ?_
      refine ax_goto f21_83 rfl ?_
      refine ax_ireturn f21_87 rfl rfl ?_
      exact ⟨rfl, sfe R r0 0, 0, 0, by decide, by decide, Lst_mk cl w a l f b t nN (fun j j1 j2 => sfe_lo (by omega) (by omega) (by omega)) (fun j j1 j2 => sfe_lo (by omega) (by omega) (by omega)) (fun j j1 j2 => sfe_lo (by omega) (by omega) (by omega)) (fun j j1 j2 => rfl) (fun j j1 j2 => rfl) (fun j j1 j2 => sfe_lo (by omega) (by omega) (by omega)) (fun j j1 j2 => rfl), gx_fr F⟩
    · obtain rfl : y = 1 := by omega
      refine ax_iconst f21_67 ?_
      refine ax_goto f21_68 rfl ?_
      refine ax_cvI (rest := []) f21_72 cl.o rfl rfl rfl rfl rfl rfl rfl rfl (u_116 cl h0 (Or.inr rfl) hc) ?_
      rintro hh1 ⟨cl1, f1⟩
      have cl := cl1
      have w := w.fr f1 (by omega)
      have a := a.fr f1 (by omega)
      have l := l.fr f1 (by omega)
      have f := f.fr f1 (by omega)
      have b := b.fr f1 (by omega)
      have t := t.fr f1 (by omega)
      have nN := nN.fr f1 (by omega)
      have F := F.trans (f1.mono fun x e => by omega)
      have iN := cl.i
      have n12 := iN.b12
      have n1 := blk_1 iN.ff
      refine ax_aload_n f21_75 rfl ?_
      refine ax_csI (rest := [_]) f21_76 (Or.inl rfl) rfl rfl rfl rfl rfl rfl (c_3 (R := sfe R r0 1) f) ?_
      intro _ e_
      obtain rfl := e_.symm
      clear e_
      refine ax_icmp_ne f21_79 rfl ⟨by omega, by omega⟩ ⟨by omega, by omega⟩ (fun q79 => absurd q79 (by omega)) (fun q79 => ?_)
      refine ax_iconst f21_82 ?_
      refine ax_goto f21_83 rfl ?_
      refine ax_ireturn f21_87 rfl rfl ?_
      exact ⟨rfl, sfe R r0 1, 0, 0, by decide, by decide, Lst_mk cl w a l f b t nN (fun j j1 j2 => sfe_lo (by omega) (by omega) (by omega)) (fun j j1 j2 => sfe_lo (by omega) (by omega) (by omega)) (fun j j1 j2 => sfe_lo (by omega) (by omega) (by omega)) (fun j j1 j2 => rfl) (fun j j1 j2 => rfl) (fun j j1 j2 => sfe_lo (by omega) (by omega) (by omega)) (fun j j1 j2 => rfl), gx_fr F⟩
  have K38 : (y = 0 ∨ R (144 + r0) = 1 ∨ blk R ≤ 11) → am_X 5 21 38 [.ref 0, .ref 123, .ref 124, .ref 126, .int (iI r0), .int (iI y)] [] h (fun r h' => rI r 1 ∧ ∃ (R' : Int → Int) (nc ms : Nat), nc ≤ 5 ∧ ms ≤ 256 ∧ Lst h' R' ∧ gx (fun q => q < 127) h h' nc ms) := by
    intro hc
    have K58 : ∀ {h1 : am_H}, Lcl h1 R → oI h1 120 48 R → oI h1 121 48 (fun j => R (48 + j)) → oI h1 122 48 (fun j => R (96 + j)) → oI h1 123 48 (fun j => sfe R r0 y (144 + j)) → oI h1 124 24 (fun j => sfe R r0 y (193 + j)) → oI h1 125 48 (fun j => R (218 + j)) → oI h1 126 6 (nn (sfe R r0 y)) → fr (fun q => q < 127) h h1 → am_X 5 21 58 [.ref 0, .ref 123, .ref 124, .ref 126, .int (iI r0), .int (iI y)] [] h1 (fun r h' => rI r 1 ∧ ∃ (R' : Int → Int) (nc ms : Nat), nc ≤ 5 ∧ ms ≤ 256 ∧ Lst h' R' ∧ gx (fun q => q < 127) h h' nc ms) := fun x1 x2 x3 x4 x5 x6 x7 x8 x9 => K58 x1 x2 x3 x4 x5 x6 x7 x8 x9 hc
    refine ax_aload_n f21_38 rfl ?_
    refine ax_iload f21_39 rfl ?_
    refine ax_ialdO f21_41 (by decide) f (by omega) (by omega) rfl ?_
    refine ax_iload f21_42 rfl ?_
    refine ax_icmp_eq f21_44 rfl ⟨by omega, by omega⟩ ⟨by omega, by omega⟩ (fun q44 => ?_) (fun q44 => ?_)
    · refine K58 cl w a l (f.eq (fun j j1 j2 => ?_)) (b.eq (fun j j1 j2 => ?_)) t (nN.eqI (fun j j1 j2 => ?_)) F
      · rw [show sfe R r0 y = R from if_pos (by omega)]
      · rw [show sfe R r0 y = R from if_pos (by omega)]
      · rw [show sfe R r0 y = R from if_pos (by omega)]
    · refine ax_aload_n f21_47 rfl ?_
      refine ax_iload f21_48 rfl ?_
      refine ax_iload f21_50 rfl ?_
      refine ax_iastO f21_52 f (by omega) (by omega) rfl (fun hp1 o1 r1 => ?_)
      have cl := cl.fr r1 (fun q hq => by omega)
      have w := w.fr r1 (by omega)
      have a := a.fr r1 (by omega)
      have l := l.fr r1 (by omega)
      have f := o1
      have b := b.fr r1 (by omega)
      have t := t.fr r1 (by omega)
      have nN := nN.fr r1 (by omega)
      have F := F.trans (r1.mono fun x e => by omega)
      refine ax_aload_n f21_53 rfl ?_
      refine ax_aload_n f21_54 rfl ?_
      refine ax_csV (rest := []) f21_55 (Or.inl rfl) rfl rfl rfl rfl rfl rfl (c_20 b nN) ?_
      rintro hh9 ⟨b9, n9, f9⟩
      have cl := cl.fr f9 (fun q hq => by omega)
      have w := w.fr f9 (by omega)
      have a := a.fr f9 (by omega)
      have l := l.fr f9 (by omega)
      have f := f.fr f9 (by omega)
      have b := b9
      have t := t.fr f9 (by omega)
      have nN := n9
      have F := F.trans (f9.mono fun x e => by omega)
      refine K58 cl w a l (f.eq (fun j j1 j2 => sfe_f j1 j2)) (b.eq (fun j j1 j2 => sfe_0 (by omega) (by omega))) t (nN.eqI (fun j j1 j2 => ?_)) F
      rw [nn_0 (R := R) (v := 0) (fun j hj => sfe_lo (by omega) (by omega) (by omega)) (sfe_0 (by omega) (by omega))]
  refine ax_iload f21_0 rfl ?_
  refine ax_iconst f21_2 ?_
  refine ax_icmp_ne f21_3 rfl ⟨by omega, by omega⟩ ⟨by omega, by omega⟩ (fun q3 => ?_) (fun q3 => ?_)
  · exact K38 (by omega)

  · refine ax_aload_n f21_6 rfl ?_
    refine ax_iload f21_7 rfl ?_
    refine ax_ialdO f21_9 (by decide) f (by omega) (by omega) rfl ?_
    refine ax_if_ne f21_10 rfl ⟨by omega, by omega⟩ (fun q10 => ?_) (fun q10 => ?_)
    · exact K38 (by omega)
    
    · refine ax_aload_n f21_13 rfl ?_
      refine ax_csI (rest := []) f21_14 (Or.inl rfl) rfl rfl rfl rfl rfl rfl (c_3 f) ?_
      intro _ e_
      obtain rfl := e_.symm
      clear e_
      refine ax_bipush f21_17 ?_
      refine ax_icmp_ne f21_19 rfl ⟨by omega, by omega⟩ ⟨by omega, by omega⟩ (fun q19 => ?_) (fun q19 => ?_)
      · exact K38 (by omega)
      
      · refine ax_aload_n f21_22 rfl ?_
        refine ax_iconst f21_23 ?_
        refine ax_cvI (rest := []) f21_24 cl.o rfl rfl rfl rfl rfl rfl rfl rfl (u_111 cl ⟨by omega, by omega⟩) ?_
        rintro hh1 ⟨cl1, f1⟩
        have cl := cl1
        have w := w.fr f1 (by omega)
        have a := a.fr f1 (by omega)
        have l := l.fr f1 (by omega)
        have f := f.fr f1 (by omega)
        have b := b.fr f1 (by omega)
        have t := t.fr f1 (by omega)
        have nN := nN.fr f1 (by omega)
        have F := F.trans (f1.mono fun x e => by omega)
        rw [show abt R 0 = blk R from rfl]
        refine ax_bipush f21_27 ?_
        refine ax_icmp_ne f21_29 rfl ⟨by omega, by omega⟩ ⟨by omega, by omega⟩ (fun q29 => absurd q29 (by omega)) (fun q29 => ?_)
        refine ax_iconst f21_32 ?_
        refine ax_goto f21_33 rfl ?_
        refine ax_ireturn f21_37 rfl rfl ?_
        exact ⟨rfl, R, 0, 0, by decide, by decide, Lst_mk cl w a l f b t nN (fun j j1 j2 => rfl) (fun j j1 j2 => rfl) (fun j j1 j2 => rfl) (fun j j1 j2 => rfl) (fun j j1 j2 => rfl) (fun j j1 j2 => rfl) (fun j j1 j2 => rfl), gx_fr F⟩
end ACT
