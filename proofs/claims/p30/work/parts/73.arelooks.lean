/-! ===== the looks of a block; how even blocks could be ===== -/
section ALK
theorem lp_16w {d p : Nat} (hp : 127 ≤ p) {Q : am_R → am_H → Prop} {R : Int → Int} (i : inv R) {wy : Int} (hw : wy = 0 ∨ wy = 1 ∨ wy = 2) {k fm to most all r : Int} : ∀ (fu : Nat) (x y : Int) (g : Int → Int) {h : am_H} {x15 : Value} (w : oI h 120 48 R) (l : oI h 122 48 (fun j => R (96 + j))) (bD : oI h p 48 g) (h1 : 0 ≤ x ∧ x ≤ r ∧ r < y ∧ y ≤ 48) (h2 : y - x ≤ fu) (kk : ∀ h' g' x' y' x15, oI h' p 48 g' → g' r = g r + hvn (vl R wy) r fu x y → fr (fun q => q = p) h h' → am_X (d + 2) 16 138 [.ref 0, .ref 120, .ref 122, .ref 123, .int (iI k), .ref p, .int (iI fm), .int (iI to), .int (iI 1), .int (iI wy), .int (iI most), .int (iI all), .int (iI r), .int (iI x'), .int (iI y'), x15] [] h' Q), am_X (d + 2) 16 72 [.ref 0, .ref 120, .ref 122, .ref 123, .int (iI k), .ref p, .int (iI fm), .int (iI to), .int (iI 1), .int (iI wy), .int (iI most), .int (iI all), .int (iI r), .int (iI x), .int (iI y), x15] [] h Q
  | 0, x, y, g, h, x15, w, l, bD, h1, h2, kk => by omega
  | fu + 1, x, y, g, h, x15, w, l, bD, h1, h2, kk => by
    by_cases c2 : y - x < 2
    · refine ax_iload f16_72 rfl ?_
      refine ax_iload f16_74 rfl ?_
      refine ax_iconst f16_76 ?_
      refine ax_iadd f16_77 ?_
      refine ax_icmp_le f16_78 rfl ⟨by omega, by omega⟩ ⟨by omega, by omega⟩ (fun q78 => ?_) (fun q78 => absurd q78 (by omega))
      have e : hvn (vl R wy) r (fu + 1) x y = 0 := by
        show (if y - x < 2 then 0 else _) = 0
        rw [if_pos (by omega)]
      exact kk h g x y x15 bD (by rw [e, Int.add_zero]) fr_rf
    · obtain ⟨m, em⟩ : ∃ m, m = hlf (vl R wy) x y := ⟨_, rfl⟩
      have hm := hlf_in (vl R wy) (a := x) (b := y) (by omega)
      rw [← em] at hm
      refine ax_iload f16_72 rfl ?_
      refine ax_iload f16_74 rfl ?_
      refine ax_iconst f16_76 ?_
      refine ax_iadd f16_77 ?_
      refine ax_icmp_le f16_78 rfl ⟨by omega, by omega⟩ ⟨by omega, by omega⟩ (fun q78 => absurd q78 (by omega)) (fun q78 => ?_)
      refine ax_aload_n f16_81 rfl ?_
      refine ax_aload_n f16_82 rfl ?_
      refine ax_iload f16_83 rfl ?_
      refine ax_iload f16_85 rfl ?_
      refine ax_iload f16_87 rfl ?_
      refine ax_csI (rest := []) f16_89 (Or.inl rfl) rfl rfl rfl rfl rfl rfl (c_8 w l hw (fun j j1 j2 => vl_ival i wy j j1 j2) (by omega) (by omega) (by omega)) ?_
      intro _ e_
      obtain rfl := e_.symm
      clear e_
      rw [← em]
      refine ax_istore (ls' := [_, _, _, _, _, _, _, _, _, _, _, _, _, _, _, _]) f16_92 (Nat.le_of_ble_eq_true rfl) rfl ?_
      by_cases c : r < m
      · refine ax_iload f16_94 rfl ?_
        refine ax_iload f16_96 rfl ?_
        refine ax_icmp_ge f16_98 rfl ⟨by omega, by omega⟩ ⟨by omega, by omega⟩ (fun q98 => absurd q98 (by omega)) (fun q98 => ?_)
        refine ax_iload f16_101 rfl ?_
        refine ax_goto f16_103 rfl ?_
        refine ax_istore (ls' := [_, _, _, _, _, _, _, _, _, _, _, _, _, _, _, _]) f16_108 (Nat.le_of_ble_eq_true rfl) rfl ?_
        refine ax_iload f16_110 rfl ?_
        refine ax_iload f16_112 rfl ?_
        refine ax_icmp_ge f16_114 rfl ⟨by omega, by omega⟩ ⟨by omega, by omega⟩ (fun q114 => absurd q114 (by omega)) (fun q114 => ?_)
        refine ax_iload f16_117 rfl ?_
        refine ax_goto f16_119 rfl ?_
        refine ax_istore (ls' := [_, _, _, _, _, _, _, _, _, _, _, _, _, _, _, _]) f16_124 (Nat.le_of_ble_eq_true rfl) rfl ?_
        refine ax_aload f16_126 rfl ?_
        refine ax_iload f16_128 rfl ?_
        refine ax_dup2 f16_130 rfl rfl ?_
        refine ax_ialdO f16_131 (by decide) bD (by omega) (by omega) rfl ?_
        refine ax_iconst f16_132 ?_
        refine ax_iadd f16_133 ?_
        refine ax_iastO f16_134 bD (by omega) (by omega) rfl (fun hp1 o1 r1 => ?_)
        have w := w.fr r1 (by omega)
        have l := l.fr r1 (by omega)
        have bD := o1
        refine ax_goto f16_135 rfl ?_
        have e : hvn (vl R wy) r (fu + 1) x y = 1 + hvn (vl R wy) r fu x m := by
          show (if y - x < 2 then 0 else 1 + (if r < hlf (vl R wy) x y then _ else _)) = _
          rw [if_neg (by omega), ← em, if_pos (by omega)]
        refine lp_16w hp i hw fu x m _ w l bD (by omega) (by omega) (fun h' g' z1 z2 z3 c1 c2 c3 => kk h' g' z1 z2 z3 c1 ?_ (r1.trans c3))
        rw [c2, uZ_s, e]
        omega
      · refine ax_iload f16_94 rfl ?_
        refine ax_iload f16_96 rfl ?_
        refine ax_icmp_ge f16_98 rfl ⟨by omega, by omega⟩ ⟨by omega, by omega⟩ (fun q98 => ?_) (fun q98 => absurd q98 (by omega))
        refine ax_iload f16_106 rfl ?_
        refine ax_istore (ls' := [_, _, _, _, _, _, _, _, _, _, _, _, _, _, _, _]) f16_108 (Nat.le_of_ble_eq_true rfl) rfl ?_
        refine ax_iload f16_110 rfl ?_
        refine ax_iload f16_112 rfl ?_
        refine ax_icmp_ge f16_114 rfl ⟨by omega, by omega⟩ ⟨by omega, by omega⟩ (fun q114 => ?_) (fun q114 => absurd q114 (by omega))
        refine ax_iload f16_122 rfl ?_
        refine ax_istore (ls' := [_, _, _, _, _, _, _, _, _, _, _, _, _, _, _, _]) f16_124 (Nat.le_of_ble_eq_true rfl) rfl ?_
        refine ax_aload f16_126 rfl ?_
        refine ax_iload f16_128 rfl ?_
        refine ax_dup2 f16_130 rfl rfl ?_
        refine ax_ialdO f16_131 (by decide) bD (by omega) (by omega) rfl ?_
        refine ax_iconst f16_132 ?_
        refine ax_iadd f16_133 ?_
        refine ax_iastO f16_134 bD (by omega) (by omega) rfl (fun hp1 o1 r1 => ?_)
        have w := w.fr r1 (by omega)
        have l := l.fr r1 (by omega)
        have bD := o1
        refine ax_goto f16_135 rfl ?_
        have e : hvn (vl R wy) r (fu + 1) x y = 1 + hvn (vl R wy) r fu m y := by
          show (if y - x < 2 then 0 else 1 + (if r < hlf (vl R wy) x y then _ else _)) = _
          rw [if_neg (by omega), ← em, if_neg (by omega)]
        refine lp_16w hp i hw fu m y _ w l bD (by omega) (by omega) (fun h' g' z1 z2 z3 c1 c2 c3 => kk h' g' z1 z2 z3 c1 ?_ (r1.trans c3))
        rw [c2, uZ_s, e]
        omega
theorem lp_16r {d p : Nat} (hp : 127 ≤ p) {Q : am_R → am_H → Prop} {R : Int → Int} (i : inv R) {wy : Int} (hw : wy = 0 ∨ wy = 1 ∨ wy = 2) {k fm to : Int} (ht : 0 ≤ fm ∧ to ≤ 48) : ∀ (n : Nat) (r most all : Int) (g : Int → Int) {h : am_H} {x13 x14 x15 : Value} (w : oI h 120 48 R) (l : oI h 122 48 (fun j => R (96 + j))) (bD : oI h p 48 g) (h1 : r + n = to) (h2 : fm ≤ r) (hm : 0 ≤ most ∧ most ≤ 48) (kk : ∀ h' x13 x14 x15, (∃ g', oI h' p 48 g') → fr (fun q => q = p) h h' → am_X (d + 2) 16 183 [.ref 0, .ref 120, .ref 122, .ref 123, .int (iI k), .ref p, .int (iI fm), .int (iI to), .int (iI 1), .int (iI wy), .int (iI (lkf (vl R wy) R fm to most all r n).1), .int (iI (lkf (vl R wy) R fm to most all r n).2), .int (iI to), x13, x14, x15] [] h' Q), am_X (d + 2) 16 51 [.ref 0, .ref 120, .ref 122, .ref 123, .int (iI k), .ref p, .int (iI fm), .int (iI to), .int (iI 1), .int (iI wy), .int (iI most), .int (iI all), .int (iI r), x13, x14, x15] [] h Q
  | 0, r, most, all, g, h, x13, x14, x15, w, l, bD, h1, h2, hm, kk => by
    have h1 : r = to := by omega
    subst h1
    refine ax_iload f16_51 rfl ?_
    refine ax_iload f16_53 rfl ?_
    refine ax_icmp_ge f16_55 rfl ⟨by omega, by omega⟩ ⟨by omega, by omega⟩ (fun q55 => ?_) (fun q55 => absurd q55 (by omega))
    exact kk h _ _ _ ⟨g, bD⟩ fr_rf
  | n + 1, r, most, all, g, h, x13, x14, x15, w, l, bD, h1, h2, hm, kk => by
    have ho := hvn_in (vl R wy) r 48 fm to
    have ho : 0 ≤ own (vl R wy) fm to r ∧ own (vl R wy) fm to r ≤ 48 := ho
    refine ax_iload f16_51 rfl ?_
    refine ax_iload f16_53 rfl ?_
    refine ax_icmp_ge f16_55 rfl ⟨by omega, by omega⟩ ⟨by omega, by omega⟩ (fun q55 => absurd q55 (by omega)) (fun q55 => ?_)
    refine ax_iload f16_58 rfl ?_
    refine ax_istore (ls' := [_, _, _, _, _, _, _, _, _, _, _, _, _, _, _, _]) f16_60 (Nat.le_of_ble_eq_true rfl) rfl ?_
    refine ax_iload f16_62 rfl ?_
    refine ax_istore (ls' := [_, _, _, _, _, _, _, _, _, _, _, _, _, _, _, _]) f16_64 (Nat.le_of_ble_eq_true rfl) rfl ?_
    refine ax_aload f16_66 rfl ?_
    refine ax_iload f16_68 rfl ?_
    refine ax_iconst f16_70 ?_
    refine ax_iastO f16_71 bD (by omega) (by omega) rfl (fun hp1 o1 r1 => ?_)
    have w := w.fr r1 (by omega)
    have l := l.fr r1 (by omega)
    have bD := o1
    refine lp_16w hp i hw 48 fm to _ w l bD (by omega) (by omega) (fun h3 g3 xx yy x15 c1 c2 c3 => ?_)
    rw [uZ_s, Int.zero_add] at c2
    have c2 : g3 r = own (vl R wy) fm to r := c2
    have w := w.fr c3 (by omega)
    have l := l.fr c3 (by omega)
    have bD := c1
    refine ax_aload f16_138 rfl ?_
    refine ax_iload f16_140 rfl ?_
    refine ax_ialdO f16_142 (by decide) bD (by omega) (by omega) rfl ?_
    rw [c2]
    refine ax_iload f16_143 rfl ?_
    refine ax_icmp_le f16_145 rfl ⟨by omega, by omega⟩ ⟨by omega, by omega⟩ (fun q145 => ?_) (fun q145 => ?_)
    · refine ax_iload f16_156 rfl ?_
      refine ax_istore (ls' := [_, _, _, _, _, _, _, _, _, _, _, _, _, _, _, _]) f16_158 (Nat.le_of_ble_eq_true rfl) rfl ?_
      refine ax_iload f16_160 rfl ?_
      refine ax_aload f16_162 rfl ?_
      refine ax_iload f16_164 rfl ?_
      refine ax_ialdO f16_166 (by decide) bD (by omega) (by omega) rfl ?_
      rw [c2]
      refine ax_iconst f16_167 ?_
      refine ax_aload_n f16_168 rfl ?_
      refine ax_iload f16_169 rfl ?_
      refine ax_ialdO f16_171 (by decide) l (by omega) (by omega) rfl ?_
      refine ax_iadd f16_172 ?_
      rw [show 1 + R (96 + r) = R (96 + r) + 1 by omega]
      refine ax_imul f16_173 ?_
      refine ax_iadd f16_174 ?_
      refine ax_istore (ls' := [_, _, _, _, _, _, _, _, _, _, _, _, _, _, _, _]) f16_175 (Nat.le_of_ble_eq_true rfl) rfl ?_
      refine ax_iinc (ls' := [_, _, _, _, _, _, _, _, _, _, _, _, _, _, _, _]) f16_177 rfl (Nat.le_of_ble_eq_true rfl) rfl ?_
      refine ax_goto f16_180 rfl ?_
      have e : lkf (vl R wy) R fm to most all r (n + 1) = lkf (vl R wy) R fm to most (all + own (vl R wy) fm to r * (R (96 + r) + 1)) (r + 1) n := by
        show lkf (vl R wy) R fm to (if most < own (vl R wy) fm to r then own (vl R wy) fm to r else most) _ (r + 1) n = _
        rw [if_neg (by omega)]
      rw [e] at kk
      exact lp_16r hp i hw ht n (r + 1) _ _ _ w l bD (by omega) (by omega) (by omega) (fun h' z1 z2 z3 e1 e2 => kk h' z1 z2 z3 e1 ((r1.trans c3).trans e2))
    · refine ax_aload f16_148 rfl ?_
      refine ax_iload f16_150 rfl ?_
      refine ax_ialdO f16_152 (by decide) bD (by omega) (by omega) rfl ?_
      rw [c2]
      refine ax_goto f16_153 rfl ?_
      refine ax_istore (ls' := [_, _, _, _, _, _, _, _, _, _, _, _, _, _, _, _]) f16_158 (Nat.le_of_ble_eq_true rfl) rfl ?_
      refine ax_iload f16_160 rfl ?_
      refine ax_aload f16_162 rfl ?_
      refine ax_iload f16_164 rfl ?_
      refine ax_ialdO f16_166 (by decide) bD (by omega) (by omega) rfl ?_
      rw [c2]
      refine ax_iconst f16_167 ?_
      refine ax_aload_n f16_168 rfl ?_
      refine ax_iload f16_169 rfl ?_
      refine ax_ialdO f16_171 (by decide) l (by omega) (by omega) rfl ?_
      refine ax_iadd f16_172 ?_
      rw [show 1 + R (96 + r) = R (96 + r) + 1 by omega]
      refine ax_imul f16_173 ?_
      refine ax_iadd f16_174 ?_
      refine ax_istore (ls' := [_, _, _, _, _, _, _, _, _, _, _, _, _, _, _, _]) f16_175 (Nat.le_of_ble_eq_true rfl) rfl ?_
      refine ax_iinc (ls' := [_, _, _, _, _, _, _, _, _, _, _, _, _, _, _, _]) f16_177 rfl (Nat.le_of_ble_eq_true rfl) rfl ?_
      refine ax_goto f16_180 rfl ?_
      have e : lkf (vl R wy) R fm to most all r (n + 1) = lkf (vl R wy) R fm to (own (vl R wy) fm to r) (all + own (vl R wy) fm to r * (R (96 + r) + 1)) (r + 1) n := by
        show lkf (vl R wy) R fm to (if most < own (vl R wy) fm to r then own (vl R wy) fm to r else most) _ (r + 1) n = _
        rw [if_pos (by omega)]
      rw [e] at kk
      exact lp_16r hp i hw ht n (r + 1) _ _ _ w l bD (by omega) (by omega) (by omega) (fun h' z1 z2 z3 e1 e2 => kk h' z1 z2 z3 e1 ((r1.trans c3).trans e2))
theorem lp_16 {d p : Nat} (hp : 127 ≤ p) {Q : am_R → am_H → Prop} {R : Int → Int} {k : Int} (h0 : 0 ≤ k ∧ k < blk R) : ∀ (n : Nat) (wy : Int) (g : Int → Int) {h : am_H} {x10 x11 x12 x13 x14 x15 : Value} (cl : Lcl h R) (w : oI h 120 48 R) (l : oI h 122 48 (fun j => R (96 + j))) (f : oI h 123 48 (fun j => R (144 + j))) (bD : oI h p 48 g) (h1 : wy + n = 3) (h2 : 0 ≤ wy) (kk : ∀ h' x10 x11 x12 x13 x14 x15, Lcl h' R → fr (fun q => q < 120 ∨ q = p) h h' → am_X (d + 7) 16 235 [.ref 0, .ref 120, .ref 122, .ref 123, .int (iI k), .ref p, .int (iI (fro R k)), .int (iI (fro R (k + 1))), .int (iI 1), .int (iI 3), x10, x11, x12, x13, x14, x15] [] h' Q), am_X (d + 7) 16 30 [.ref 0, .ref 120, .ref 122, .ref 123, .int (iI k), .ref p, .int (iI (fro R k)), .int (iI (fro R (k + 1))), .int (iI 1), .int (iI wy), x10, x11, x12, x13, x14, x15] [] h Q
  | 0, wy, g, h, x10, x11, x12, x13, x14, x15, cl, w, l, f, bD, h1, h2, kk => by
    have h1 : wy = 3 := by omega
    subst h1
    refine ax_iload f16_30 rfl ?_
    refine ax_iconst f16_32 ?_
    refine ax_icmp_ge f16_33 rfl ⟨by omega, by omega⟩ ⟨by omega, by omega⟩ (fun q33 => ?_) (fun q33 => absurd q33 (by omega))
    exact kk h _ _ _ _ _ _ cl fr_rf
  | n + 1, wy, g, h, x10, x11, x12, x13, x14, x15, cl, w, l, f, bD, h1, h2, kk => by
    have i := cl.i
    obtain ⟨b1, b2, b3⟩ := fro_lt i.ff h0.1 h0.2
    have b4 := (fro_sp i.ff k).1
    have b5 := (fro_sp i.ff (k + 1)).2.1
    refine ax_iload f16_30 rfl ?_
    refine ax_iconst f16_32 ?_
    refine ax_icmp_ge f16_33 rfl ⟨by omega, by omega⟩ ⟨by omega, by omega⟩ (fun q33 => absurd q33 (by omega)) (fun q33 => ?_)
    refine ax_iload f16_36 rfl ?_
    refine ax_if_eq f16_38 rfl ⟨by omega, by omega⟩ (fun q38 => absurd q38 (by omega)) (fun q38 => ?_)
    refine ax_iconst f16_41 ?_
    refine ax_istore (ls' := [_, _, _, _, _, _, _, _, _, _, _, _, _, _, _, _]) f16_42 (Nat.le_of_ble_eq_true rfl) rfl ?_
    refine ax_iconst f16_44 ?_
    refine ax_istore (ls' := [_, _, _, _, _, _, _, _, _, _, _, _, _, _, _, _]) f16_45 (Nat.le_of_ble_eq_true rfl) rfl ?_
    refine ax_iload f16_47 rfl ?_
    refine ax_istore (ls' := [_, _, _, _, _, _, _, _, _, _, _, _, _, _, _, _]) f16_49 (Nat.le_of_ble_eq_true rfl) rfl ?_
    have hw : wy = 0 ∨ wy = 1 ∨ wy = 2 := by omega
    refine lp_16r hp i hw ⟨b4, b5⟩ (fro R (k + 1) - fro R k).toNat (fro R k) 0 0 g w l bD (by omega) (Int.le_refl _) (by omega) (fun h3 x13 x14 x15 c3 c4 => ?_)
    have el : lkf (vl R wy) R (fro R k) (fro R (k + 1)) 0 0 (fro R k) (fro R (k + 1) - fro R k).toNat = lkb R wy k := rfl
    rw [el]
    have lk := lkb_in (w := wy) i h0.1 h0.2
    have ll := lc_lkb (w := wy) i h0.1 h0.2
    have li := lc_in (V := vl R 2) (fun j j1 j2 => vl_ival i 2 j j1 j2) 48 (fro R k) (fro R (k + 1)) b4 b3 b5
    obtain ⟨gd, bD⟩ := c3
    have cl := cl.fr c4 (fun q hq => by omega)
    have w := w.fr c4 (by omega)
    have l := l.fr c4 (by omega)
    have f := f.fr c4 (by omega)
    have F : fr (fun q => q < 120) h3 h3 := fr_rf
    refine ax_aload_n f16_183 rfl ?_
    refine ax_iload f16_184 rfl ?_
    refine ax_iload f16_186 rfl ?_
    refine ax_iconst f16_188 ?_
    refine ax_cvI (rest := []) f16_189 cl.o rfl rfl rfl rfl rfl rfl rfl rfl (u_125 cl h0 ⟨by omega, by omega⟩ ⟨by omega, by omega⟩) ?_
    rintro hh1 ⟨cl1, f1⟩
    have cl := cl1
    have w := w.fr f1 (by omega)
    have l := l.fr f1 (by omega)
    have f := f.fr f1 (by omega)
    have F := F.trans (f1.mono fun x e => by omega)
    rw [if_pos rfl]
    refine ax_iload f16_192 rfl ?_
    refine ax_icmp_ne f16_194 rfl ⟨by omega, by omega⟩ ⟨by omega, by omega⟩ (fun q194 => absurd q194 (by omega)) (fun q194 => ?_)
    refine ax_aload_n f16_197 rfl ?_
    refine ax_iload f16_198 rfl ?_
    refine ax_iload f16_200 rfl ?_
    refine ax_iconst f16_202 ?_
    refine ax_cvI (rest := []) f16_203 cl.o rfl rfl rfl rfl rfl rfl rfl rfl (u_125 cl h0 ⟨by omega, by omega⟩ ⟨by omega, by omega⟩) ?_
    rintro hh2 ⟨cl2, f2⟩
    have cl := cl2
    have w := w.fr f2 (by omega)
    have l := l.fr f2 (by omega)
    have f := f.fr f2 (by omega)
    have F := F.trans (f2.mono fun x e => by omega)
    rw [if_neg (by omega)]
    refine ax_iload f16_206 rfl ?_
    refine ax_icmp_ne f16_208 rfl ⟨by omega, by omega⟩ ⟨by omega, by omega⟩ (fun q208 => absurd q208 (by omega)) (fun q208 => ?_)
    refine ax_aload_n f16_211 rfl ?_
    refine ax_iload f16_212 rfl ?_
    refine ax_cvI (rest := []) f16_214 cl.o rfl rfl rfl rfl rfl rfl rfl rfl (u_126 cl h0) ?_
    rintro hh3 ⟨cl3, f3⟩
    have cl := cl3
    have w := w.fr f3 (by omega)
    have l := l.fr f3 (by omega)
    have f := f.fr f3 (by omega)
    have F := F.trans (f3.mono fun x e => by omega)
    refine ax_iload f16_217 rfl ?_
    refine ax_icmp_gt f16_219 rfl ⟨by omega, by omega⟩ ⟨by omega, by omega⟩ (fun q219 => absurd q219 (by omega)) (fun q219 => ?_)
    refine ax_iconst f16_222 ?_
    refine ax_goto f16_223 rfl ?_
    refine ax_istore (ls' := [_, _, _, _, _, _, _, _, _, _, _, _, _, _, _, _]) f16_227 (Nat.le_of_ble_eq_true rfl) rfl ?_
    refine ax_iinc (ls' := [_, _, _, _, _, _, _, _, _, _, _, _, _, _, _, _]) f16_229 rfl (Nat.le_of_ble_eq_true rfl) rfl ?_
    refine ax_goto f16_232 rfl ?_
    exact lp_16 hp h0 n (wy + 1) gd cl w l f (oA.fr bD F (by omega)) (by omega) (by omega) (fun h' z10 z11 z12 z13 z14 z15 e1 e2 => kk h' z10 z11 z12 z13 z14 z15 e1 ((c4.mono fun q e => Or.inr e).trans ((F.mono fun q e => Or.inl e).trans e2)))
theorem c_16 {h : am_H} (hl : 127 ≤ h.1.length) {R : Int → Int} {k : Int} (h0 : 0 ≤ k ∧ k < blk R) (cl : Lcl h R) (w : oI h 120 48 R) (l : oI h 122 48 (fun j => R (96 + j))) (f : oI h 123 48 (fun j => R (144 + j)))  : am_X 7 16 0 (am_ent 16 [.ref 0, .ref 120, .ref 122, .ref 123, .int (iI k)]) [] h (fun r h' => rI r 1 ∧ ∃ nc ms, nc ≤ 2 ∧ ms ≤ 112 ∧ Lcl h' R ∧ gx (fun q => q < 120) h h' nc ms) := by
  show am_X 7 16 0 [.ref 0, .ref 120, .ref 122, .ref 123, .int (iI k), am_u, am_u, am_u, am_u, am_u, am_u, am_u, am_u, am_u, am_u, am_u] [] h _
  obtain ⟨p, hl0⟩ : ∃ p, h.1.length = p := ⟨_, rfl⟩
  have hp : 127 ≤ p := by omega
  have b12 := cl.i.b12
  have i := cl.i
  obtain ⟨b1, b2, b3⟩ := fro_lt i.ff h0.1 h0.2
  have b4 := (fro_sp i.ff k).1
  have b5 := (fro_sp i.ff (k + 1)).2.1
  refine ax_bipush f16_0 ?_
  refine ax_nwaO (A := (48, .inl fun _ => 0)) (N := 48) (p := p) f16_2 (by omega) (by omega) rfl rfl hl0 (fun ha1 o1 g1 => ?_)
  have hl1 : ha1.1.length = p + 1 := by have := g1.2.1; omega
  have bD : oI ha1 p 48 (fun _ => 0) := oA_0 o1
  have cl := cl.gw g1 (by omega)
  have w := w.gw g1 (by omega)
  have l := l.gw g1 (by omega)
  have f := f.gw g1 (by omega)
  refine ax_astore (ls' := [_, _, _, _, _, _, _, _, _, _, _, _, _, _, _, _]) f16_4 (Nat.le_of_ble_eq_true rfl) rfl ?_
  refine ax_aload_n f16_6 rfl ?_
  refine ax_iload f16_7 rfl ?_
  refine ax_csI (rest := []) f16_9 (Or.inl rfl) rfl rfl rfl rfl rfl rfl (c_4 f i.ff ⟨by omega, by omega⟩) ?_
  intro _ e_
  obtain rfl := e_.symm
  clear e_
  refine ax_istore (ls' := [_, _, _, _, _, _, _, _, _, _, _, _, _, _, _, _]) f16_12 (Nat.le_of_ble_eq_true rfl) rfl ?_
  refine ax_aload_n f16_14 rfl ?_
  refine ax_iload f16_15 rfl ?_
  refine ax_iconst f16_17 ?_
  refine ax_iadd f16_18 ?_
  refine ax_csI (rest := []) f16_19 (Or.inl rfl) rfl rfl rfl rfl rfl rfl (c_4 f i.ff ⟨by omega, by omega⟩) ?_
  intro _ e_
  obtain rfl := e_.symm
  clear e_
  refine ax_istore (ls' := [_, _, _, _, _, _, _, _, _, _, _, _, _, _, _, _]) f16_22 (Nat.le_of_ble_eq_true rfl) rfl ?_
  refine ax_iconst f16_24 ?_
  refine ax_istore (ls' := [_, _, _, _, _, _, _, _, _, _, _, _, _, _, _, _]) f16_25 (Nat.le_of_ble_eq_true rfl) rfl ?_
  refine ax_iconst f16_27 ?_
  refine ax_istore (ls' := [_, _, _, _, _, _, _, _, _, _, _, _, _, _, _, _]) f16_28 (Nat.le_of_ble_eq_true rfl) rfl ?_
  have li := lc_in (V := vl R 2) (fun j j1 j2 => vl_ival i 2 j j1 j2) 48 (fro R k) (fro R (k + 1)) b4 b3 b5
  refine lp_16 (d := 0) hp h0 3 0 (fun _ => 0) cl w l f bD (by omega) (by omega) (fun h2 x10 x11 x12 x13 x14 x15 c1 c2 => ?_)
  have cl := c1
  have l := l.fr c2 (by omega)
  have F : fr (fun q => q < 120) h2 h2 := fr_rf
  refine ax_iload f16_235 rfl ?_
  refine ax_if_eq f16_237 rfl ⟨by omega, by omega⟩ (fun q237 => absurd q237 (by omega)) (fun q237 => ?_)
  refine ax_iload f16_240 rfl ?_
  refine ax_iload f16_242 rfl ?_
  refine ax_isub f16_244 ?_
  refine ax_bipush f16_245 ?_
  refine ax_icmp_gt f16_247 rfl ⟨by omega, by omega⟩ ⟨by omega, by omega⟩ (fun q247 => ?_) (fun q247 => ?_)
  · refine ax_iconst f16_270 ?_
    refine ax_goto f16_271 rfl ?_
    refine ax_ireturn f16_275 rfl rfl ?_
    exact ⟨rfl, 1, 48, by decide, by decide, cl, (gx_wf g1 hl0 c2 (fun q q1 q2 => by omega)).cg rfl rfl⟩
  · refine ax_aload_n f16_250 rfl ?_
    refine ax_iload f16_251 rfl ?_
    refine ax_cvI (rest := []) f16_253 cl.o rfl rfl rfl rfl rfl rfl rfl rfl (u_126 cl h0) ?_
    rintro hh1 ⟨cl1, f1⟩
    have cl := cl1
    have l := l.fr f1 (by omega)
    have F := F.trans (f1.mono fun x e => by omega)
    refine ax_aload_n f16_256 rfl ?_
    refine ax_iload f16_257 rfl ?_
    refine ax_iload f16_259 rfl ?_
    refine ax_iload f16_261 rfl ?_
    refine ax_isub f16_263 ?_
    refine ax_csI (rest := [_]) f16_264 (Or.inl rfl) rfl rfl rfl rfl rfl rfl (c_17 (by rw [F.1, c2.1]; omega) i (fm := fro R k) (many := fro R (k + 1) - fro R k) ⟨b4, by omega, by omega, by omega⟩ l) ?_
    rintro hh9 g9
    have cl := cl.gx g9 (by rw [F.1, c2.1]; omega) (fun q hq z => z)
    rw [show fro R k + (fro R (k + 1) - fro R k) = fro R (k + 1) by omega]
    refine ax_icmp_ne f16_267 rfl ⟨by omega, by omega⟩ ⟨by omega, by omega⟩ (fun q267 => absurd q267 (by omega)) (fun q267 => ?_)
    refine ax_iconst f16_270 ?_
    refine ax_goto f16_271 rfl ?_
    refine ax_ireturn f16_275 rfl rfl ?_
    exact ⟨rfl, 2, 112, by decide, by decide, cl, (gx_wg g1 hl0 ((gx_fr c2).tr ((gx_fr (F.mono fun q e => Or.inl e)).tr (g9.mono fun q e => e.elim))) (fun q q1 q2 => by omega)).cg rfl rfl⟩
theorem nee_1 {R : Int → Int} {g n : Int} (hn : n ≤ 11) : nee R g ≤ n + 1 ↔ fts R g n := by
  unfold nee fts
  by_cases c : hvy R ≤ g
  · rw [if_pos c]
    exact ⟨fun z => ⟨c, by omega⟩, fun z => by have := z.2; omega⟩
  · rw [if_neg c]
    exact ⟨fun z => by omega, fun z => absurd z.1 c⟩
theorem nee_in {R : Int → Int} {g : Int} : 0 ≤ nee R g ∧ nee R g ≤ 99 := by
  have := gf_bnd (R := R) g
  unfold nee
  split <;> omega
theorem c_19 {h : am_H} {R : Int → Int} (cl : Lcl h R) (w : oI h 120 48 R) {n : Int} (h0 : 1 ≤ n ∧ n ≤ 11) : am_X 5 19 0 (am_ent 19 [.ref 0, .ref 120, .int (iI n)]) [] h (fun r h' => rI r 1 ∧ (Lcl h' R ∧ fr (fun q => q < 120) h h')) := by
  show am_X 5 19 0 [.ref 0, .ref 120, .int (iI n), am_u] [] h _
  have i := cl.i
  have hb := bal_in (R := R) i.1.1 (n := n) (by omega)
  have hs := bal_sp (R := R) i.1.1 (n := n) (by omega)
  have k1 := (nee_1 (R := R) (g := bal R n) (n := n) (by omega)).mpr hs.1
  have k2 : ¬ nee R (bal R n - 1) ≤ n + 1 := fun z => hs.2 (bal R n - 1) (by omega) ((nee_1 (by omega)).mp z)
  have n1 := nee_in (R := R) (g := bal R n)
  have n2 := nee_in (R := R) (g := bal R n - 1)
  have F : fr (fun q => q < 120) h h := fr_rf
  refine ax_aload_n f19_0 rfl ?_
  refine ax_iload_n f19_1 rfl ?_
  refine ax_cvI (rest := []) f19_2 cl.o rfl rfl rfl rfl rfl rfl rfl rfl (u_127 cl h0) ?_
  rintro hh1 ⟨cl1, f1⟩
  have cl := cl1
  have w := w.fr f1 (by omega)
  have F := F.trans (f1.mono fun x e => by omega)
  refine ax_istore_n (ls' := [_, _, _, _]) f19_5 (Nat.le_of_ble_eq_true rfl) rfl ?_
  refine ax_aload_n f19_6 rfl ?_
  refine ax_iload_n f19_7 rfl ?_
  refine ax_csI (rest := []) f19_8 (Or.inl rfl) rfl rfl rfl rfl rfl rfl (c_18 w i.1.1 (by omega)) ?_
  intro _ e_
  obtain rfl := e_.symm
  clear e_
  refine ax_iload_n f19_11 rfl ?_
  refine ax_iconst f19_12 ?_
  refine ax_iadd f19_13 ?_
  refine ax_icmp_gt f19_14 rfl ⟨by omega, by omega⟩ ⟨by omega, by omega⟩ (fun q14 => absurd q14 (by omega)) (fun q14 => ?_)
  refine ax_aload_n f19_17 rfl ?_
  refine ax_iload_n f19_18 rfl ?_
  refine ax_iconst f19_19 ?_
  refine ax_isub f19_20 ?_
  refine ax_csI (rest := []) f19_21 (Or.inl rfl) rfl rfl rfl rfl rfl rfl (c_18 w i.1.1 (by omega)) ?_
  intro _ e_
  obtain rfl := e_.symm
  clear e_
  refine ax_iload_n f19_24 rfl ?_
  refine ax_iconst f19_25 ?_
  refine ax_iadd f19_26 ?_
  refine ax_icmp_le f19_27 rfl ⟨by omega, by omega⟩ ⟨by omega, by omega⟩ (fun q27 => absurd q27 (by omega)) (fun q27 => ?_)
  refine ax_iconst f19_30 ?_
  refine ax_goto f19_31 rfl ?_
  refine ax_ireturn f19_35 rfl rfl ?_
  exact ⟨rfl, cl, F⟩
end ALK
