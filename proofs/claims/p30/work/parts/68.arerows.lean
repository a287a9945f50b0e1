/-! ===== all that is told of rows ===== -/
section ARW
theorem sm01_in {g : Int → Int} (h : ∀ j, 0 ≤ j → j < 48 → g j = 0 ∨ g j = 1) {n : Nat} (hn : n ≤ 48) : 0 ≤ sm g 0 n ∧ sm g 0 n ≤ n := by
  have l := sm_le (f := g) (c := 1) (n := n) (a := 0) (fun j j1 j2 => by have := h j j1 (by omega); omega)
  have m := sm_ge (f := g) (c := 0) (n := n) (a := 0) (fun j j1 j2 => by have := h j j1 (by omega); omega)
  omega
theorem lp_12 {d : Nat} {Q : am_R → am_H → Prop} {R : Int → Int} : ∀ (n : Nat) (r bk : Int) {h : am_H} (cl : Lcl h R) (w : oI h 120 48 R) (a : oI h 121 48 (fun j => R (48 + j))) (l : oI h 122 48 (fun j => R (96 + j))) (f : oI h 123 48 (fun j => R (144 + j))) (t : oI h 125 48 (fun j => R (218 + j))) (nN : oI h 126 6 (nn R)) (h1 : r + n = 48) (h2 : 0 ≤ r) (hb0 : r = 0 → bk = 0) (hb1 : 0 < r → bk = bat R (r - 1)) (kk : ∀ h', Lcl h' R → fr (fun q => q < 120) h h' → am_X (d + 3) 12 146 [.ref 0, .ref 120, .ref 121, .ref 122, .ref 123, .ref 125, .ref 126, .int (iI (sm (fun j => R (48 + j)) 0 48)), .int (iI (sm (fun j => R (96 + j)) 0 48)), .int (iI (bat R (48 - 1))), .int (iI 1), .int (iI 48)] [] h' Q), am_X (d + 3) 12 15 [.ref 0, .ref 120, .ref 121, .ref 122, .ref 123, .ref 125, .ref 126, .int (iI (sm (fun j => R (48 + j)) 0 r.toNat)), .int (iI (sm (fun j => R (96 + j)) 0 r.toNat)), .int (iI bk), .int (iI 1), .int (iI r)] [] h Q
  | 0, r, bk, h, cl, w, a, l, f, t, nN, h1, h2, hb0, hb1, kk => by
    have h1 : r = 48 := by omega
    subst h1
    have hb2 := hb1 (by omega)
    subst hb2
    refine ax_iload f12_15 rfl ?_
    refine ax_bipush f12_17 ?_
    refine ax_icmp_ge f12_19 rfl ⟨by omega, by omega⟩ ⟨by omega, by omega⟩ (fun q19 => ?_) (fun q19 => absurd q19 (by omega))
    exact kk h cl fr_rf
  | n + 1, r, bk, h, cl, w, a, l, f, t, nN, h1, h2, hb0, hb1, kk => by
    have i := cl.i
    have b12 := i.b12
    have iw := i.wt h2 (by omega)
    have ia := i.aw h2 (by omega)
    have il := i.lo h2 (by omega)
    have it := i.tk h2 (by omega)
    have g1 := bat_ge i.ff h2 (by omega)
    have g2 := bat_lb i.ff h2 (by omega)
    have e1 : sm (fun j => R (48 + j)) 0 r.toNat + R (48 + r) = sm (fun j => R (48 + j)) 0 (r + 1).toNat := by
      rw [show (r + 1).toNat = r.toNat + 1 by omega, sm_snoc, show (0 : Int) + (r.toNat : Int) = r by omega]
    have e2 : sm (fun j => R (96 + j)) 0 r.toNat + R (96 + r) = sm (fun j => R (96 + j)) 0 (r + 1).toNat := by
      rw [show (r + 1).toNat = r.toNat + 1 by omega, sm_snoc, show (0 : Int) + (r.toNat : Int) = r by omega]
    have K43 : ∀ v : Int, bk + v = bat R r → am_X (d + 3) 12 43 [.ref 0, .ref 120, .ref 121, .ref 122, .ref 123, .ref 125, .ref 126, .int (iI (sm (fun j => R (48 + j)) 0 r.toNat)), .int (iI (sm (fun j => R (96 + j)) 0 r.toNat)), .int (iI bk), .int (iI 1), .int (iI r)] [.int (iI v), .int (iI bk)] h Q := by
      intro v hv
      have F : fr (fun q => q < 120) h h := fr_rf
      refine ax_iadd f12_43 ?_
      rw [hv]
      refine ax_istore (ls' := [_, _, _, _, _, _, _, _, _, _, _, _]) f12_44 (Nat.le_of_ble_eq_true rfl) rfl ?_
      refine ax_iload f12_46 rfl ?_
      refine ax_aload_n f12_48 rfl ?_
      refine ax_iload f12_49 rfl ?_
      refine ax_ialdO f12_51 (by decide) a (by omega) (by omega) rfl ?_
      refine ax_iadd f12_52 ?_
      rw [e1]
      refine ax_istore (ls' := [_, _, _, _, _, _, _, _, _, _, _, _]) f12_53 (Nat.le_of_ble_eq_true rfl) rfl ?_
      refine ax_iload f12_55 rfl ?_
      refine ax_aload_n f12_57 rfl ?_
      refine ax_iload f12_58 rfl ?_
      refine ax_ialdO f12_60 (by decide) l (by omega) (by omega) rfl ?_
      refine ax_iadd f12_61 ?_
      rw [e2]
      refine ax_istore (ls' := [_, _, _, _, _, _, _, _, _, _, _, _]) f12_62 (Nat.le_of_ble_eq_true rfl) rfl ?_
      refine ax_aload_n f12_64 rfl ?_
      refine ax_iload f12_65 rfl ?_
      refine ax_iconst f12_67 ?_
      refine ax_cvI (rest := []) f12_68 cl.o rfl rfl rfl rfl rfl rfl rfl rfl (u_112 cl ⟨h2, by omega⟩ ⟨by omega, by omega⟩) ?_
      rintro hh1 ⟨cl1, f1⟩
      have cl := cl1
      have w := w.fr f1 (by omega)
      have a := a.fr f1 (by omega)
      have l := l.fr f1 (by omega)
      have f := f.fr f1 (by omega)
      have t := t.fr f1 (by omega)
      have nN := nN.fr f1 (by omega)
      have F := F.trans (f1.mono fun x e => by omega)
      rw [show rof R r 0 = R r from rfl]
      refine ax_aload_n f12_71 rfl ?_
      refine ax_iload f12_72 rfl ?_
      refine ax_ialdO f12_74 (by decide) w (by omega) (by omega) rfl ?_
      refine ax_icmp_ne f12_75 rfl ⟨by omega, by omega⟩ ⟨by omega, by omega⟩ (fun q75 => absurd q75 (by omega)) (fun q75 => ?_)
      refine ax_aload_n f12_78 rfl ?_
      refine ax_iload f12_79 rfl ?_
      refine ax_iconst f12_81 ?_
      refine ax_cvI (rest := []) f12_82 cl.o rfl rfl rfl rfl rfl rfl rfl rfl (u_112 cl ⟨h2, by omega⟩ ⟨by omega, by omega⟩) ?_
      rintro hh2 ⟨cl2, f2⟩
      have cl := cl2
      have w := w.fr f2 (by omega)
      have a := a.fr f2 (by omega)
      have l := l.fr f2 (by omega)
      have f := f.fr f2 (by omega)
      have t := t.fr f2 (by omega)
      have nN := nN.fr f2 (by omega)
      have F := F.trans (f2.mono fun x e => by omega)
      rw [show rof R r 1 = R (48 + r) from rfl]
      refine ax_aload_n f12_85 rfl ?_
      refine ax_iload f12_86 rfl ?_
      refine ax_ialdO f12_88 (by decide) a (by omega) (by omega) rfl ?_
      refine ax_icmp_ne f12_89 rfl ⟨by omega, by omega⟩ ⟨by omega, by omega⟩ (fun q89 => absurd q89 (by omega)) (fun q89 => ?_)
      refine ax_aload_n f12_92 rfl ?_
      refine ax_iload f12_93 rfl ?_
      refine ax_iconst f12_95 ?_
      refine ax_cvI (rest := []) f12_96 cl.o rfl rfl rfl rfl rfl rfl rfl rfl (u_112 cl ⟨h2, by omega⟩ ⟨by omega, by omega⟩) ?_
      rintro hh3 ⟨cl3, f3⟩
      have cl := cl3
      have w := w.fr f3 (by omega)
      have a := a.fr f3 (by omega)
      have l := l.fr f3 (by omega)
      have f := f.fr f3 (by omega)
      have t := t.fr f3 (by omega)
      have nN := nN.fr f3 (by omega)
      have F := F.trans (f3.mono fun x e => by omega)
      rw [show rof R r 2 = R (96 + r) from rfl]
      refine ax_aload_n f12_99 rfl ?_
      refine ax_iload f12_100 rfl ?_
      refine ax_ialdO f12_102 (by decide) l (by omega) (by omega) rfl ?_
      refine ax_icmp_ne f12_103 rfl ⟨by omega, by omega⟩ ⟨by omega, by omega⟩ (fun q103 => absurd q103 (by omega)) (fun q103 => ?_)
      refine ax_aload_n f12_106 rfl ?_
      refine ax_iload f12_107 rfl ?_
      refine ax_iconst f12_109 ?_
      refine ax_cvI (rest := []) f12_110 cl.o rfl rfl rfl rfl rfl rfl rfl rfl (u_112 cl ⟨h2, by omega⟩ ⟨by omega, by omega⟩) ?_
      rintro hh4 ⟨cl4, f4⟩
      have cl := cl4
      have w := w.fr f4 (by omega)
      have a := a.fr f4 (by omega)
      have l := l.fr f4 (by omega)
      have f := f.fr f4 (by omega)
      have t := t.fr f4 (by omega)
      have nN := nN.fr f4 (by omega)
      have F := F.trans (f4.mono fun x e => by omega)
      rw [show rof R r 3 = bat R r from rfl]
      refine ax_iload f12_113 rfl ?_
      refine ax_icmp_ne f12_115 rfl ⟨by omega, by omega⟩ ⟨by omega, by omega⟩ (fun q115 => absurd q115 (by omega)) (fun q115 => ?_)
      refine ax_aload_n f12_118 rfl ?_
      refine ax_iload f12_119 rfl ?_
      refine ax_iconst f12_121 ?_
      refine ax_cvI (rest := []) f12_122 cl.o rfl rfl rfl rfl rfl rfl rfl rfl (u_112 cl ⟨h2, by omega⟩ ⟨by omega, by omega⟩) ?_
      rintro hh5 ⟨cl5, f5⟩
      have cl := cl5
      have w := w.fr f5 (by omega)
      have a := a.fr f5 (by omega)
      have l := l.fr f5 (by omega)
      have f := f.fr f5 (by omega)
      have t := t.fr f5 (by omega)
      have nN := nN.fr f5 (by omega)
      have F := F.trans (f5.mono fun x e => by omega)
      rw [show rof R r 4 = R (218 + r) from rfl]
      refine ax_aload f12_125 rfl ?_
      refine ax_iload f12_127 rfl ?_
      refine ax_ialdO f12_129 (by decide) t (by omega) (by omega) rfl ?_
      refine ax_icmp_ne f12_130 rfl ⟨by omega, by omega⟩ ⟨by omega, by omega⟩ (fun q130 => absurd q130 (by omega)) (fun q130 => ?_)
      refine ax_iconst f12_133 ?_
      refine ax_goto f12_134 rfl ?_
      refine ax_istore (ls' := [_, _, _, _, _, _, _, _, _, _, _, _]) f12_138 (Nat.le_of_ble_eq_true rfl) rfl ?_
      refine ax_iinc (ls' := [_, _, _, _, _, _, _, _, _, _, _, _]) f12_140 rfl (Nat.le_of_ble_eq_true rfl) rfl ?_
      refine ax_goto f12_143 rfl ?_
      refine lp_12 n (r + 1) (bat R r) cl w a l f t nN (by omega) (by omega) (by omega) (fun _ => by rw [show r + 1 - 1 = r by omega]) (fun h' c1 c2 => kk h' c1 (F.trans c2))
    refine ax_iload f12_15 rfl ?_
    refine ax_bipush f12_17 ?_
    refine ax_icmp_ge f12_19 rfl ⟨by omega, by omega⟩ ⟨by omega, by omega⟩ (fun q19 => absurd q19 (by omega)) (fun q19 => ?_)
    refine ax_iload f12_22 rfl ?_
    refine ax_if_eq f12_24 rfl ⟨by omega, by omega⟩ (fun q24 => absurd q24 (by omega)) (fun q24 => ?_)
    refine ax_iload f12_27 rfl ?_
    refine ax_iload f12_29 rfl ?_
    refine ax_if_le f12_31 rfl ⟨by omega, by omega⟩ (fun q31 => ?_) (fun q31 => ?_)
    · refine ax_iconst f12_42 ?_
      exact K43 0 (by rw [show r = 0 by omega, hb0 (by omega)]; rfl)
    · refine ax_aload f12_34 rfl ?_
      refine ax_iload f12_36 rfl ?_
      refine ax_ialdO f12_38 (by decide) f (by omega) (by omega) rfl ?_
      refine ax_goto f12_39 rfl ?_
      have e := bat_s (R := R) (r := r - 1) (by omega)
      rw [show r - 1 + 1 = r by omega] at e
      exact K43 _ (by rw [hb1 (by omega), e])
theorem c_12 {h : am_H} {R : Int → Int} (cl : Lcl h R) (w : oI h 120 48 R) (a : oI h 121 48 (fun j => R (48 + j))) (l : oI h 122 48 (fun j => R (96 + j))) (f : oI h 123 48 (fun j => R (144 + j))) (t : oI h 125 48 (fun j => R (218 + j))) (nN : oI h 126 6 (nn R))  : am_X 3 12 0 (am_ent 12 [.ref 0, .ref 120, .ref 121, .ref 122, .ref 123, .ref 125, .ref 126]) [] h (fun r h' => rI r 1 ∧ (Lcl h' R ∧ fr (fun q => q < 120) h h')) := by
  show am_X 3 12 0 [.ref 0, .ref 120, .ref 121, .ref 122, .ref 123, .ref 125, .ref 126, am_u, am_u, am_u, am_u, am_u] [] h _
  refine ax_iconst f12_0 ?_
  refine ax_istore (ls' := [_, _, _, _, _, _, _, _, _, _, _, _]) f12_1 (Nat.le_of_ble_eq_true rfl) rfl ?_
  refine ax_iconst f12_3 ?_
  refine ax_istore (ls' := [_, _, _, _, _, _, _, _, _, _, _, _]) f12_4 (Nat.le_of_ble_eq_true rfl) rfl ?_
  refine ax_iconst f12_6 ?_
  refine ax_istore (ls' := [_, _, _, _, _, _, _, _, _, _, _, _]) f12_7 (Nat.le_of_ble_eq_true rfl) rfl ?_
  refine ax_iconst f12_9 ?_
  refine ax_istore (ls' := [_, _, _, _, _, _, _, _, _, _, _, _]) f12_10 (Nat.le_of_ble_eq_true rfl) rfl ?_
  refine ax_iconst f12_12 ?_
  refine ax_istore (ls' := [_, _, _, _, _, _, _, _, _, _, _, _]) f12_13 (Nat.le_of_ble_eq_true rfl) rfl ?_
  have i := cl.i
  have b12 := i.b12
  have b1 := blk_1 i.ff
  have gb := bok_in i.1.1 (a := 0) (b := 48) (by omega) (by omega) (by omega)
  have gf := fld_in i.1.1 (a := 0) (b := 48) (by omega) (by omega) (by omega)
  have ge := gon_e (R := R) (x := 0) (y := 48) i.1.2.1 (by omega) (by omega) (by omega)
  have s1 := sm01_in (g := fun j => R (48 + j)) (fun j j1 j2 => i.aw j1 j2) (Nat.le_refl 48)
  have s2l := sm_le (f := fun j => R (96 + j)) (c := 99) (n := 48) (a := 0) (fun j j1 j2 => (i.lo j1 (by omega)).2)
  have s2g := sm_ge (f := fun j => R (96 + j)) (c := 0) (n := 48) (a := 0) (fun j j1 j2 => (i.lo j1 (by omega)).1)
  have s3 := sm01_in (g := fun j => R (218 + j)) (fun j j1 j2 => i.tk j1 j2) (Nat.le_refl 48)
  have mn := i.mn
  have itd := i.td
  have ilk : -2147483648 ≤ R 217 ∧ R 217 < 2147483648 := i.lk
  have iwr := i.wr
  have imi := i.mi
  have itr := i.tr
  refine lp_12 (d := 0) 48 0 0 cl w a l f t nN (by omega) (by omega) (fun _ => rfl) (fun z => absurd z (by omega)) (fun h1 c1 c2 => ?_)
  have cl := c1
  have w := w.fr c2 (by omega)
  have a := a.fr c2 (by omega)
  have l := l.fr c2 (by omega)
  have f := f.fr c2 (by omega)
  have t := t.fr c2 (by omega)
  have nN := nN.fr c2 (by omega)
  have F := c2
  refine ax_iload f12_146 rfl ?_
  refine ax_if_eq f12_148 rfl ⟨by omega, by omega⟩ (fun q148 => absurd q148 (by omega)) (fun q148 => ?_)
  refine ax_aload_n f12_151 rfl ?_
  refine ax_iconst f12_152 ?_
  refine ax_cvI (rest := []) f12_153 cl.o rfl rfl rfl rfl rfl rfl rfl rfl (u_111 cl ⟨by omega, by omega⟩) ?_
  rintro hh1 ⟨cl1, f1⟩
  have cl := cl1
  have w := w.fr f1 (by omega)
  have a := a.fr f1 (by omega)
  have l := l.fr f1 (by omega)
  have f := f.fr f1 (by omega)
  have t := t.fr f1 (by omega)
  have nN := nN.fr f1 (by omega)
  have F := F.trans (f1.mono fun x e => by omega)
  rw [show abt R 0 = blk R from rfl]
  refine ax_aload f12_156 rfl ?_
  refine ax_csI (rest := [_]) f12_158 (Or.inl rfl) rfl rfl rfl rfl rfl rfl (c_3 f) ?_
  intro _ e_
  obtain rfl := e_.symm
  clear e_
  refine ax_icmp_ne f12_161 rfl ⟨by omega, by omega⟩ ⟨by omega, by omega⟩ (fun q161 => absurd q161 (by omega)) (fun q161 => ?_)
  refine ax_aload_n f12_164 rfl ?_
  refine ax_iconst f12_165 ?_
  refine ax_cvI (rest := []) f12_166 cl.o rfl rfl rfl rfl rfl rfl rfl rfl (u_111 cl ⟨by omega, by omega⟩) ?_
  rintro hh2 ⟨cl2, f2⟩
  have cl := cl2
  have w := w.fr f2 (by omega)
  have a := a.fr f2 (by omega)
  have l := l.fr f2 (by omega)
  have f := f.fr f2 (by omega)
  have t := t.fr f2 (by omega)
  have nN := nN.fr f2 (by omega)
  have F := F.trans (f2.mono fun x e => by omega)
  rw [show abt R 1 = sm (fun j => R (48 + j)) 0 48 from rfl]
  refine ax_iload f12_169 rfl ?_
  refine ax_icmp_ne f12_171 rfl ⟨by omega, by omega⟩ ⟨by omega, by omega⟩ (fun q171 => absurd q171 (by omega)) (fun q171 => ?_)
  refine ax_aload_n f12_174 rfl ?_
  refine ax_iconst f12_175 ?_
  refine ax_cvI (rest := []) f12_176 cl.o rfl rfl rfl rfl rfl rfl rfl rfl (u_111 cl ⟨by omega, by omega⟩) ?_
  rintro hh3 ⟨cl3, f3⟩
  have cl := cl3
  have w := w.fr f3 (by omega)
  have a := a.fr f3 (by omega)
  have l := l.fr f3 (by omega)
  have f := f.fr f3 (by omega)
  have t := t.fr f3 (by omega)
  have nN := nN.fr f3 (by omega)
  have F := F.trans (f3.mono fun x e => by omega)
  rw [show abt R 2 = bok R 0 48 from rfl]
  refine ax_aload_n f12_179 rfl ?_
  refine ax_iconst f12_180 ?_
  refine ax_bipush f12_181 ?_
  refine ax_csI (rest := [_]) f12_183 (Or.inl rfl) rfl rfl rfl rfl rfl rfl (c_5 w (by omega) (by omega) (by omega)) ?_
  intro _ e_
  obtain rfl := e_.symm
  clear e_
  refine ax_icmp_ne f12_186 rfl ⟨by omega, by omega⟩ ⟨by omega, by omega⟩ (fun q186 => absurd q186 (by omega)) (fun q186 => ?_)
  refine ax_aload_n f12_189 rfl ?_
  refine ax_iconst f12_190 ?_
  refine ax_cvI (rest := []) f12_191 cl.o rfl rfl rfl rfl rfl rfl rfl rfl (u_111 cl ⟨by omega, by omega⟩) ?_
  rintro hh4 ⟨cl4, f4⟩
  have cl := cl4
  have w := w.fr f4 (by omega)
  have a := a.fr f4 (by omega)
  have l := l.fr f4 (by omega)
  have f := f.fr f4 (by omega)
  have t := t.fr f4 (by omega)
  have nN := nN.fr f4 (by omega)
  have F := F.trans (f4.mono fun x e => by omega)
  rw [show abt R 3 = fld R 0 48 from rfl]
  refine ax_aload_n f12_194 rfl ?_
  refine ax_iconst f12_195 ?_
  refine ax_bipush f12_196 ?_
  refine ax_csI (rest := [_]) f12_198 (Or.inl rfl) rfl rfl rfl rfl rfl rfl (c_5 w (by omega) (by omega) (by omega)) ?_
  intro _ e_
  obtain rfl := e_.symm
  clear e_
  refine ax_aload_n f12_201 rfl ?_
  refine ax_aload_n f12_202 rfl ?_
  refine ax_iconst f12_203 ?_
  refine ax_bipush f12_204 ?_
  refine ax_csI (rest := [_, _]) f12_206 (Or.inl rfl) rfl rfl rfl rfl rfl rfl (c_6 w a (by omega) (by omega) (by omega) (by omega)) ?_
  intro _ e_
  obtain rfl := e_.symm
  clear e_
  refine ax_isub f12_209 ?_
  refine ax_icmp_ne f12_210 rfl ⟨by omega, by omega⟩ ⟨by omega, by omega⟩ (fun q210 => absurd q210 (by omega)) (fun q210 => ?_)
  refine ax_aload_n f12_213 rfl ?_
  refine ax_iconst f12_214 ?_
  refine ax_cvI (rest := []) f12_215 cl.o rfl rfl rfl rfl rfl rfl rfl rfl (u_111 cl ⟨by omega, by omega⟩) ?_
  rintro hh5 ⟨cl5, f5⟩
  have cl := cl5
  have w := w.fr f5 (by omega)
  have a := a.fr f5 (by omega)
  have l := l.fr f5 (by omega)
  have f := f.fr f5 (by omega)
  have t := t.fr f5 (by omega)
  have nN := nN.fr f5 (by omega)
  have F := F.trans (f5.mono fun x e => by omega)
  rw [show abt R 4 = R 192 from rfl]
  refine ax_aload f12_218 rfl ?_
  refine ax_iconst f12_220 ?_
  refine ax_ialdO f12_221 (by decide) nN (by omega) (by omega) rfl ?_
  rw [show nn R 0 = R 192 from rfl]
  refine ax_icmp_ne f12_222 rfl ⟨by omega, by omega⟩ ⟨by omega, by omega⟩ (fun q222 => absurd q222 (by omega)) (fun q222 => ?_)
  refine ax_aload_n f12_225 rfl ?_
  refine ax_iconst f12_226 ?_
  refine ax_cvI (rest := []) f12_227 cl.o rfl rfl rfl rfl rfl rfl rfl rfl (u_111 cl ⟨by omega, by omega⟩) ?_
  rintro hh6 ⟨cl6, f6⟩
  have cl := cl6
  have w := w.fr f6 (by omega)
  have a := a.fr f6 (by omega)
  have l := l.fr f6 (by omega)
  have f := f.fr f6 (by omega)
  have t := t.fr f6 (by omega)
  have nN := nN.fr f6 (by omega)
  have F := F.trans (f6.mono fun x e => by omega)
  rw [show abt R 5 = R 217 from rfl]
  refine ax_aload f12_230 rfl ?_
  refine ax_iconst f12_232 ?_
  refine ax_ialdO f12_233 (by decide) nN (by omega) (by omega) rfl ?_
  rw [show nn R 1 = R 217 from rfl]
  refine ax_icmp_ne f12_234 rfl ⟨by omega, by omega⟩ ⟨by omega, by omega⟩ (fun q234 => absurd q234 (by omega)) (fun q234 => ?_)
  refine ax_iconst f12_237 ?_
  refine ax_goto f12_238 rfl ?_
  refine ax_istore (ls' := [_, _, _, _, _, _, _, _, _, _, _, _]) f12_242 (Nat.le_of_ble_eq_true rfl) rfl ?_
  refine ax_iload f12_244 rfl ?_
  refine ax_if_eq f12_246 rfl ⟨by omega, by omega⟩ (fun q246 => absurd q246 (by omega)) (fun q246 => ?_)
  refine ax_aload_n f12_249 rfl ?_
  refine ax_bipush f12_250 ?_
  refine ax_cvI (rest := []) f12_252 cl.o rfl rfl rfl rfl rfl rfl rfl rfl (u_111 cl ⟨by omega, by omega⟩) ?_
  rintro hh7 ⟨cl7, f7⟩
  have cl := cl7
  have w := w.fr f7 (by omega)
  have a := a.fr f7 (by omega)
  have l := l.fr f7 (by omega)
  have f := f.fr f7 (by omega)
  have t := t.fr f7 (by omega)
  have nN := nN.fr f7 (by omega)
  have F := F.trans (f7.mono fun x e => by omega)
  rw [show abt R 6 = R 266 from rfl]
  refine ax_aload f12_255 rfl ?_
  refine ax_iconst f12_257 ?_
  refine ax_ialdO f12_258 (by decide) nN (by omega) (by omega) rfl ?_
  rw [show nn R 3 = R 266 from rfl]
  refine ax_icmp_ne f12_259 rfl ⟨by omega, by omega⟩ ⟨by omega, by omega⟩ (fun q259 => absurd q259 (by omega)) (fun q259 => ?_)
  refine ax_aload_n f12_262 rfl ?_
  refine ax_bipush f12_263 ?_
  refine ax_cvI (rest := []) f12_265 cl.o rfl rfl rfl rfl rfl rfl rfl rfl (u_111 cl ⟨by omega, by omega⟩) ?_
  rintro hh8 ⟨cl8, f8⟩
  have cl := cl8
  have w := w.fr f8 (by omega)
  have a := a.fr f8 (by omega)
  have l := l.fr f8 (by omega)
  have f := f.fr f8 (by omega)
  have t := t.fr f8 (by omega)
  have nN := nN.fr f8 (by omega)
  have F := F.trans (f8.mono fun x e => by omega)
  rw [show abt R 7 = R 267 from rfl]
  refine ax_aload f12_268 rfl ?_
  refine ax_iconst f12_270 ?_
  refine ax_ialdO f12_271 (by decide) nN (by omega) (by omega) rfl ?_
  rw [show nn R 4 = R 267 from rfl]
  refine ax_icmp_ne f12_272 rfl ⟨by omega, by omega⟩ ⟨by omega, by omega⟩ (fun q272 => absurd q272 (by omega)) (fun q272 => ?_)
  refine ax_aload_n f12_275 rfl ?_
  refine ax_bipush f12_276 ?_
  refine ax_cvI (rest := []) f12_278 cl.o rfl rfl rfl rfl rfl rfl rfl rfl (u_111 cl ⟨by omega, by omega⟩) ?_
  rintro hh9 ⟨cl9, f9⟩
  have cl := cl9
  have w := w.fr f9 (by omega)
  have a := a.fr f9 (by omega)
  have l := l.fr f9 (by omega)
  have f := f.fr f9 (by omega)
  have t := t.fr f9 (by omega)
  have nN := nN.fr f9 (by omega)
  have F := F.trans (f9.mono fun x e => by omega)
  rw [show abt R 8 = R 268 from rfl]
  refine ax_aload f12_281 rfl ?_
  refine ax_iconst f12_283 ?_
  refine ax_ialdO f12_284 (by decide) nN (by omega) (by omega) rfl ?_
  rw [show nn R 5 = R 268 from rfl]
  refine ax_icmp_ne f12_285 rfl ⟨by omega, by omega⟩ ⟨by omega, by omega⟩ (fun q285 => absurd q285 (by omega)) (fun q285 => ?_)
  refine ax_aload_n f12_288 rfl ?_
  refine ax_bipush f12_289 ?_
  refine ax_cvI (rest := []) f12_291 cl.o rfl rfl rfl rfl rfl rfl rfl rfl (u_111 cl ⟨by omega, by omega⟩) ?_
  rintro hh10 ⟨cl10, f10⟩
  have cl := cl10
  have w := w.fr f10 (by omega)
  have a := a.fr f10 (by omega)
  have l := l.fr f10 (by omega)
  have f := f.fr f10 (by omega)
  have t := t.fr f10 (by omega)
  have nN := nN.fr f10 (by omega)
  have F := F.trans (f10.mono fun x e => by omega)
  rw [show abt R 9 = R 269 from rfl]
  refine ax_aload f12_294 rfl ?_
  refine ax_iconst f12_296 ?_
  refine ax_ialdO f12_297 (by decide) nN (by omega) (by omega) rfl ?_
  rw [show nn R 2 = R 269 from rfl]
  refine ax_icmp_ne f12_298 rfl ⟨by omega, by omega⟩ ⟨by omega, by omega⟩ (fun q298 => absurd q298 (by omega)) (fun q298 => ?_)
  refine ax_aload_n f12_301 rfl ?_
  refine ax_bipush f12_302 ?_
  refine ax_cvI (rest := []) f12_304 cl.o rfl rfl rfl rfl rfl rfl rfl rfl (u_111 cl ⟨by omega, by omega⟩) ?_
  rintro hh11 ⟨cl11, f11⟩
  have cl := cl11
  have w := w.fr f11 (by omega)
  have a := a.fr f11 (by omega)
  have l := l.fr f11 (by omega)
  have f := f.fr f11 (by omega)
  have t := t.fr f11 (by omega)
  have nN := nN.fr f11 (by omega)
  have F := F.trans (f11.mono fun x e => by omega)
  rw [show abt R 10 = sm (fun j => R (96 + j)) 0 48 from rfl]
  refine ax_iload f12_307 rfl ?_
  refine ax_icmp_ne f12_309 rfl ⟨by omega, by omega⟩ ⟨by omega, by omega⟩ (fun q309 => absurd q309 (by omega)) (fun q309 => ?_)
  refine ax_iconst f12_312 ?_
  refine ax_goto f12_313 rfl ?_
  refine ax_ireturn f12_317 rfl rfl ?_
  exact ⟨rfl, cl, F⟩
end ARW
