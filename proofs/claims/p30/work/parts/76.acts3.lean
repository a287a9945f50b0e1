/-! ===== actions: seek; the switch over the actions ===== -/
section ACV
/-- the law's single numbers and losses while a search is noted -/
def sn (R : Int → Int) (lk : Int) (Fd : Int → Int) (r j : Int) : Int := if j = 1 then R 217 + lk else if j = 3 then sm Fd 0 r.toNat else if j = 4 then sm (fun j => Fd j * (1 - R (48 + j))) 0 r.toNat else if j = 5 then sm (fun j => (1 - Fd j) * R (48 + j)) 0 r.toNat else nn R j
def lno (R Fd : Int → Int) (r j : Int) : Int := if j < r then min (R (96 + j) + Fd j) 99 else R (96 + j)
theorem c6 {P : Int → Prop} (h0 : P 0) (h1 : P 1) (h2 : P 2) (h3 : P 3) (h4 : P 4) (h5 : P 5) (j : Int) (j1 : 0 ≤ j) (j2 : j < 6) : P j := by
  rcases (show j = 0 ∨ j = 1 ∨ j = 2 ∨ j = 3 ∨ j = 4 ∨ j = 5 by omega) with e | e | e | e | e | e <;> rw [e] <;> assumption
theorem nts_lo {R Fd : Int → Int} {lk j : Int} (h : j < 96 ∨ (144 ≤ j ∧ j < 217) ∨ 269 ≤ j) : nts R lk Fd j = R j := by
  unfold nts
  rw [if_neg (by omega), if_neg (by omega), if_neg (by omega), if_neg (by omega), if_neg (by omega), if_neg (by omega)]
theorem nts_l {R Fd : Int → Int} {lk j : Int} (h1 : 0 ≤ j) (h2 : j < 48) : nts R lk Fd (96 + j) = lno R Fd 48 j := by
  unfold nts lno
  rw [if_neg (by omega), if_neg (by omega), if_neg (by omega), if_neg (by omega), if_neg (by omega), if_pos (by omega), if_pos h2, show 96 + j - 96 = j by omega]
theorem nts_t {R Fd : Int → Int} {lk j : Int} (h1 : 0 ≤ j) (h2 : j < 48) : nts R lk Fd (218 + j) = Fd j := by
  unfold nts
  rw [if_neg (by omega), if_pos (by omega), show 218 + j - 218 = j by omega]
theorem nn_2 {R : Int → Int} {v j : Int} : nn (uZ R 269 v) j = uZ (nn R) 2 v j := by
  show nn (uZ R 269 v) j = (if j = 2 then v else nn R j)
  unfold nn
  rw [uZ_s, uZ_n (by omega), uZ_n (by omega), uZ_n (by omega), uZ_n (by omega), uZ_n (by omega)]
  by_cases c : j = 2
  · rw [if_pos c, if_neg (by omega), if_neg (by omega), if_pos c]
  · rw [if_neg c, if_neg c, if_neg c]
theorem lp_143 {d : Nat} {Q : am_R → am_H → Prop} {R Fd : Int → Int} (i : inv R) (hF : f01 Fd) {wy lk : Int} : ∀ (n : Nat) (r : Int) {h : am_H} (a : oI h 121 48 (fun j => R (48 + j))) (l : oI h 122 48 (lno R Fd r)) (t : oI h 125 48 Fd) (nN : oI h 126 6 (sn R lk Fd r)) (h1 : r + n = 48) (h2 : 0 ≤ r) (kk : ∀ h', oI h' 122 48 (lno R Fd 48) → oI h' 125 48 Fd → oI h' 126 6 (sn R lk Fd 48) → fr (fun q => q = 122 ∨ q = 126) h h' → am_X d 143 162 [.ref 0, .ref 120, .ref 121, .ref 122, .ref 123, .ref 124, .ref 125, .ref 126, .int (iI wy), .int (iI lk), .int (iI 48)] [] h' Q), am_X d 143 74 [.ref 0, .ref 120, .ref 121, .ref 122, .ref 123, .ref 124, .ref 125, .ref 126, .int (iI wy), .int (iI lk), .int (iI r)] [] h Q
  | 0, r, h, a, l, t, nN, h1, h2, kk => by
    have h1 : r = 48 := by omega
    subst h1
    refine ax_iload f143_74 rfl ?_
    refine ax_bipush f143_76 ?_
    refine ax_icmp_ge f143_78 rfl ⟨by omega, by omega⟩ ⟨by omega, by omega⟩ (fun q78 => ?_) (fun q78 => absurd q78 (by omega))
    exact kk h l t nN fr_rf
  | n + 1, r, h, a, l, t, nN, h1, h2, kk => by
    have ir := i.lo (r := r) h2 (by omega)
    have hf := hF r h2 (by omega)
    have e1 : sm (Fd) 0 r.toNat + Fd r = sm (Fd) 0 (r + 1).toNat := by
      rw [show (r + 1).toNat = r.toNat + 1 by omega, sm_snoc, show (0 : Int) + (r.toNat : Int) = r by omega]
    have e2 : sm (fun j => Fd j * (1 - R (48 + j))) 0 r.toNat + Fd r * (1 - R (48 + r)) = sm (fun j => Fd j * (1 - R (48 + j))) 0 (r + 1).toNat := by
      rw [show (r + 1).toNat = r.toNat + 1 by omega, sm_snoc, show (0 : Int) + (r.toNat : Int) = r by omega]
    have e3 : sm (fun j => (1 - Fd j) * R (48 + j)) 0 r.toNat + (1 - Fd r) * R (48 + r) = sm (fun j => (1 - Fd j) * R (48 + j)) 0 (r + 1).toNat := by
      rw [show (r + 1).toNat = r.toNat + 1 by omega, sm_snoc, show (0 : Int) + (r.toNat : Int) = r by omega]
    refine ax_iload f143_74 rfl ?_
    refine ax_bipush f143_76 ?_
    refine ax_icmp_ge f143_78 rfl ⟨by omega, by omega⟩ ⟨by omega, by omega⟩ (fun q78 => absurd q78 (by omega)) (fun q78 => ?_)
    refine ax_aload f143_81 rfl ?_
    refine ax_iconst f143_83 ?_
    refine ax_dup2 f143_84 rfl rfl ?_
    refine ax_ialdO f143_85 (by decide) nN (by omega) (by omega) rfl ?_
    refine ax_aload f143_86 rfl ?_
    refine ax_iload f143_88 rfl ?_
    refine ax_ialdO f143_90 (by decide) t (by omega) (by omega) rfl ?_
    refine ax_iadd f143_91 ?_
    refine ax_iastO f143_92 nN (by omega) (by omega) rfl (fun hp1 o1 r1 => ?_)
    have a := a.fr r1 (by omega)
    have l := l.fr r1 (by omega)
    have t := t.fr r1 (by omega)
    have nN := o1
    refine ax_aload f143_93 rfl ?_
    refine ax_iconst f143_95 ?_
    refine ax_dup2 f143_96 rfl rfl ?_
    refine ax_ialdO f143_97 (by decide) nN (by omega) (by omega) rfl ?_
    refine ax_aload f143_98 rfl ?_
    refine ax_iload f143_100 rfl ?_
    refine ax_ialdO f143_102 (by decide) t (by omega) (by omega) rfl ?_
    refine ax_iconst f143_103 ?_
    refine ax_aload_n f143_104 rfl ?_
    refine ax_iload f143_105 rfl ?_
    refine ax_ialdO f143_107 (by decide) a (by omega) (by omega) rfl ?_
    refine ax_isub f143_108 ?_
    refine ax_imul f143_109 ?_
    refine ax_iadd f143_110 ?_
    refine ax_iastO f143_111 nN (by omega) (by omega) rfl (fun hp2 o2 r2 => ?_)
    have a := a.fr r2 (by omega)
    have l := l.fr r2 (by omega)
    have t := t.fr r2 (by omega)
    have nN := o2
    refine ax_aload f143_112 rfl ?_
    refine ax_iconst f143_114 ?_
    refine ax_dup2 f143_115 rfl rfl ?_
    refine ax_ialdO f143_116 (by decide) nN (by omega) (by omega) rfl ?_
    refine ax_iconst f143_117 ?_
    refine ax_aload f143_118 rfl ?_
    refine ax_iload f143_120 rfl ?_
    refine ax_ialdO f143_122 (by decide) t (by omega) (by omega) rfl ?_
    refine ax_isub f143_123 ?_
    refine ax_aload_n f143_124 rfl ?_
    refine ax_iload f143_125 rfl ?_
    refine ax_ialdO f143_127 (by decide) a (by omega) (by omega) rfl ?_
    refine ax_imul f143_128 ?_
    refine ax_iadd f143_129 ?_
    refine ax_iastO f143_130 nN (by omega) (by omega) rfl (fun hp3 o3 r3 => ?_)
    have a := a.fr r3 (by omega)
    have l := l.fr r3 (by omega)
    have t := t.fr r3 (by omega)
    have nN := o3
    refine ax_aload_n f143_131 rfl ?_
    refine ax_iload f143_132 rfl ?_
    refine ax_dup2 f143_134 rfl rfl ?_
    refine ax_ialdO f143_135 (by decide) l (by omega) (by omega) rfl ?_
    rw [show lno R Fd r r = R (96 + r) from if_neg (by omega)]
    refine ax_aload_n f143_136 rfl ?_
    refine ax_iload f143_137 rfl ?_
    refine ax_ialdO f143_139 (by decide) l (by omega) (by omega) rfl ?_
    rw [show lno R Fd r r = R (96 + r) from if_neg (by omega)]
    refine ax_bipush f143_140 ?_
    refine ax_icmp_ge f143_142 rfl ⟨by omega, by omega⟩ ⟨by omega, by omega⟩ (fun q142 => ?_) (fun q142 => ?_)
    · refine ax_iconst f143_153 ?_
      refine ax_iadd f143_154 ?_
      refine ax_iastO f143_155 l (by omega) (by omega) rfl (fun hp4 o4 r4 => ?_)
      have a := a.fr r4 (by omega)
      have l := o4
      have t := t.fr r4 (by omega)
      have nN := nN.fr r4 (by omega)
      refine ax_iinc (ls' := [_, _, _, _, _, _, _, _, _, _, _]) f143_156 rfl (Nat.le_of_ble_eq_true rfl) rfl ?_
      refine ax_goto f143_159 rfl ?_
      have nN := nN.eq (g' := sn R lk Fd (r + 1)) (c6 rfl rfl rfl e1.symm e2.symm e3.symm)
      have l := l.eq (g' := lno R Fd (r + 1)) (fun j j1 j2 => by
        by_cases c : j = r
        · rw [c, uZ_s]
          show (if r < r + 1 then _ else _) = _
          rw [if_pos (by omega)]
          omega
        · rw [uZ_n c]
          unfold lno
          by_cases c2 : j < r
          · rw [if_pos c2, if_pos (by omega)]
          · rw [if_neg c2, if_neg (by omega)])
      exact lp_143 i hF n (r + 1) a l t nN (by omega) (by omega) (fun h' c1 c2 c3 c4 => kk h' c1 c2 c3 (((r1.mono fun x e => by omega).trans ((r2.mono fun x e => by omega).trans ((r3.mono fun x e => by omega).trans (r4.mono fun x e => by omega)))).trans c4))
    · refine ax_aload f143_145 rfl ?_
      refine ax_iload f143_147 rfl ?_
      refine ax_ialdO f143_149 (by decide) t (by omega) (by omega) rfl ?_
      refine ax_goto f143_150 rfl ?_
      refine ax_iadd f143_154 ?_
      refine ax_iastO f143_155 l (by omega) (by omega) rfl (fun hp4 o4 r4 => ?_)
      have a := a.fr r4 (by omega)
      have l := o4
      have t := t.fr r4 (by omega)
      have nN := nN.fr r4 (by omega)
      refine ax_iinc (ls' := [_, _, _, _, _, _, _, _, _, _, _]) f143_156 rfl (Nat.le_of_ble_eq_true rfl) rfl ?_
      refine ax_goto f143_159 rfl ?_
      have nN := nN.eq (g' := sn R lk Fd (r + 1)) (c6 rfl rfl rfl e1.symm e2.symm e3.symm)
      have l := l.eq (g' := lno R Fd (r + 1)) (fun j j1 j2 => by
        by_cases c : j = r
        · rw [c, uZ_s]
          show (if r < r + 1 then _ else _) = _
          rw [if_pos (by omega)]
          omega
        · rw [uZ_n c]
          unfold lno
          by_cases c2 : j < r
          · rw [if_pos c2, if_pos (by omega)]
          · rw [if_neg c2, if_neg (by omega)])
      exact lp_143 i hF n (r + 1) a l t nN (by omega) (by omega) (fun h' c1 c2 c3 c4 => kk h' c1 c2 c3 (((r1.mono fun x e => by omega).trans ((r2.mono fun x e => by omega).trans ((r3.mono fun x e => by omega).trans (r4.mono fun x e => by omega)))).trans c4))
theorem c_143 {h : am_H} {R : Int → Int} (L0 : Lst h R) (hl : 127 ≤ h.1.length) {wy : Int} (h0 : 0 ≤ wy ∧ wy < 3) : am_X 56 143 0 (am_ent 143 [.ref 0, .ref 120, .ref 121, .ref 122, .ref 123, .ref 124, .ref 125, .ref 126, .int (iI wy)]) [] h (fun r h' => rI r 1 ∧ ∃ (R' : Int → Int) (nc ms : Nat), nc ≤ 5 ∧ ms ≤ 256 ∧ Lst h' R' ∧ gx (fun q => q < 127) h h' nc ms) := by
  show am_X 56 143 0 [.ref 0, .ref 120, .ref 121, .ref 122, .ref 123, .ref 124, .ref 125, .ref 126, .int (iI wy), am_u, am_u] [] h _
  obtain ⟨cl, w, a, l, f, b, t, nN⟩ := L0
  have i := cl.i
  have b12 := i.b12
  have b1 := blk_1 i.ff
  have F : fr (fun q => q < 127) h h := fr_rf
  have td := i.td
  have tr := i.tr
  have hs := sek_sp i.ff i.b12 wy
  have K29 : (R 192 = 1 ∨ R 269 = 0) → am_X 56 143 29 [.ref 0, .ref 120, .ref 121, .ref 122, .ref 123, .ref 124, .ref 125, .ref 126, .int (iI wy), am_u, am_u] [] h (fun r h' => rI r 1 ∧ ∃ (R' : Int → Int) (nc ms : Nat), nc ≤ 5 ∧ ms ≤ 256 ∧ Lst h' R' ∧ gx (fun q => q < 127) h h' nc ms) := by
    intro can
    refine ax_aload_n f143_29 rfl ?_
    refine ax_aload_n f143_30 rfl ?_
    refine ax_aload_n f143_31 rfl ?_
    refine ax_aload f143_32 rfl ?_
    refine ax_aload f143_34 rfl ?_
    refine ax_aload f143_36 rfl ?_
    refine ax_iload f143_38 rfl ?_
    refine ax_aload f143_40 rfl ?_
    refine ax_csI (rest := []) f143_42 (Or.inl rfl) rfl rfl rfl rfl rfl rfl (c_11 hl ⟨by omega, by omega, by omega⟩ i (by omega) w a l f b nN t) ?_
    rintro hq9 ⟨t9, g9⟩
    have w := w.gx g9 (by omega)
    have a := a.gx g9 (by omega)
    have l := l.gx g9 (by omega)
    have f := f.gx g9 (by omega)
    have b := b.gx g9 (by omega)
    have nN := nN.gx g9 (by omega)
    have cl := cl.gx g9 (by omega) (fun q hq => by omega)
    have t := t9
    have F : fr (fun q => q < 127) hq9 hq9 := fr_rf
    refine ax_istore (ls' := [_, _, _, _, _, _, _, _, _, _, _]) f143_45 (Nat.le_of_ble_eq_true rfl) rfl ?_
    refine ax_aload f143_47 rfl ?_
    refine ax_iconst f143_49 ?_
    refine ax_dup2 f143_50 rfl rfl ?_
    refine ax_ialdO f143_51 (by decide) nN (by omega) (by omega) rfl ?_
    refine ax_iload f143_52 rfl ?_
    refine ax_iadd f143_54 ?_
    refine ax_iastO f143_55 nN (by omega) (by omega) rfl (fun hp2 o2 r2 => ?_)
    have cl := cl.fr r2 (fun q hq => by omega)
    have w := w.fr r2 (by omega)
    have a := a.fr r2 (by omega)
    have l := l.fr r2 (by omega)
    have f := f.fr r2 (by omega)
    have b := b.fr r2 (by omega)
    have t := t.fr r2 (by omega)
    have nN := o2
    have F := F.trans (r2.mono fun x e => by omega)
    refine ax_aload f143_56 rfl ?_
    refine ax_iconst f143_58 ?_
    refine ax_iconst f143_59 ?_
    refine ax_iastO f143_60 nN (by omega) (by omega) rfl (fun hp3 o3 r3 => ?_)
    have cl := cl.fr r3 (fun q hq => by omega)
    have w := w.fr r3 (by omega)
    have a := a.fr r3 (by omega)
    have l := l.fr r3 (by omega)
    have f := f.fr r3 (by omega)
    have b := b.fr r3 (by omega)
    have t := t.fr r3 (by omega)
    have nN := o3
    have F := F.trans (r3.mono fun x e => by omega)
    refine ax_aload f143_61 rfl ?_
    refine ax_iconst f143_63 ?_
    refine ax_iconst f143_64 ?_
    refine ax_iastO f143_65 nN (by omega) (by omega) rfl (fun hp4 o4 r4 => ?_)
    have cl := cl.fr r4 (fun q hq => by omega)
    have w := w.fr r4 (by omega)
    have a := a.fr r4 (by omega)
    have l := l.fr r4 (by omega)
    have f := f.fr r4 (by omega)
    have b := b.fr r4 (by omega)
    have t := t.fr r4 (by omega)
    have nN := o4
    have F := F.trans (r4.mono fun x e => by omega)
    refine ax_aload f143_66 rfl ?_
    refine ax_iconst f143_68 ?_
    refine ax_iconst f143_69 ?_
    refine ax_iastO f143_70 nN (by omega) (by omega) rfl (fun hp5 o5 r5 => ?_)
    have cl := cl.fr r5 (fun q hq => by omega)
    have w := w.fr r5 (by omega)
    have a := a.fr r5 (by omega)
    have l := l.fr r5 (by omega)
    have f := f.fr r5 (by omega)
    have b := b.fr r5 (by omega)
    have t := t.fr r5 (by omega)
    have nN := o5
    have F := F.trans (r5.mono fun x e => by omega)
    refine ax_iconst f143_71 ?_
    refine ax_istore (ls' := [_, _, _, _, _, _, _, _, _, _, _]) f143_72 (Nat.le_of_ble_eq_true rfl) rfl ?_
    have nN := nN.eq (g' := sn R (sek R wy).1 (sek R wy).2 0) (c6 rfl rfl rfl rfl rfl rfl)
    have l := l.eq (g' := lno R (sek R wy).2 0) (fun j j1 j2 => if_neg (by omega))
    refine lp_143 (d := 56) i hs.1 48 0 a l t nN (by omega) (by omega) (fun h3 c1 c2 c3 c4 => ?_)
    have cl := cl.fr c4 (fun q hq => by omega)
    have w := w.fr c4 (by omega)
    have a := a.fr c4 (by omega)
    have l := c1
    have f := f.fr c4 (by omega)
    have b := b.fr c4 (by omega)
    have t := c2
    have nN := c3
    have F := F.trans (c4.mono fun x e => by omega)
    refine ax_aload_n f143_162 rfl ?_
    refine ax_iload f143_163 rfl ?_
    refine ax_cvI (rest := []) f143_165 cl.o rfl rfl rfl rfl rfl rfl rfl rfl (u_120 cl h0 can) ?_
    rintro hh1 ⟨cl1, f1⟩
    have cl := cl1
    have w := w.fr f1 (by omega)
    have a := a.fr f1 (by omega)
    have l := l.fr f1 (by omega)
    have f := f.fr f1 (by omega)
    have b := b.fr f1 (by omega)
    have t := t.fr f1 (by omega)
    have nN := nN.fr f1 (by omega)
    have F := F.trans (f1.mono fun x e => by omega)
    refine ax_iload f143_168 rfl ?_
    refine ax_icmp_ne f143_170 rfl ⟨by omega, by omega⟩ ⟨by omega, by omega⟩ (fun q170 => absurd q170 (by omega)) (fun q170 => ?_)
    refine ax_iconst f143_173 ?_
    refine ax_goto f143_174 rfl ?_
    refine ax_ireturn f143_178 rfl rfl ?_
    refine ⟨rfl, skd R wy, 5, 256, by decide, by decide, Lst_mk cl w a l f b t nN (fun j j1 j2 => nts_lo (by omega)) (fun j j1 j2 => nts_lo (by omega)) (fun j j1 j2 => nts_l j1 j2) (fun j j1 j2 => nts_lo (by omega)) (fun j j1 j2 => nts_lo (by omega)) (fun j j1 j2 => nts_t j1 j2) (c6 ?_ ?_ ?_ ?_ ?_ ?_), ((g9.mono fun q e => by omega).tr (gx_fr F)).cg rfl rfl⟩
    · exact congrArg iI (show nts R (sek R wy).1 (sek R wy).2 192 = R 192 from nts_lo (by omega))
    · exact iI_wr (R 217 + (sek R wy).1)
    · exact congrArg iI (show nts R (sek R wy).1 (sek R wy).2 269 = R 269 from nts_lo (by omega))
    · rfl
    · refine congrArg iI (show sm (fun j => if R (48 + j) = 1 then 0 else (sek R wy).2 j) 0 48 = sm (fun j => (sek R wy).2 j * (1 - R (48 + j))) 0 48 from sm_cong fun j j1 j2 => ?_)
      rcases i.aw j1 (by omega) with z | z
      · rw [z, if_neg (by omega)]; omega
      · rw [z, if_pos rfl]; omega
    · refine congrArg iI (show sm (fun j => if (sek R wy).2 j = 1 then 0 else R (48 + j)) 0 48 = sm (fun j => (1 - (sek R wy).2 j) * R (48 + j)) 0 48 from sm_cong fun j j1 j2 => ?_)
      rcases hs.1 j j1 (by omega) with z | z
      · rw [z, if_neg (by omega)]; omega
      · rw [z, if_pos rfl]; omega
  refine ax_aload f143_0 rfl ?_
  refine ax_iconst f143_2 ?_
  refine ax_ialdO f143_3 (by decide) nN (by omega) (by omega) rfl ?_
  rw [show nn R 2 = R 269 from rfl]
  refine ax_iconst f143_4 ?_
  refine ax_icmp_ne f143_5 rfl ⟨by omega, by omega⟩ ⟨by omega, by omega⟩ (fun q5 => ?_) (fun q5 => ?_)
  · exact K29 (by omega)

  · refine ax_aload f143_8 rfl ?_
    refine ax_iconst f143_10 ?_
    refine ax_ialdO f143_11 (by decide) nN (by omega) (by omega) rfl ?_
    rw [show nn R 0 = R 192 from rfl]
    refine ax_if_ne f143_12 rfl ⟨by omega, by omega⟩ (fun q12 => ?_) (fun q12 => ?_)
    · exact K29 (by omega)
    
    · refine ax_aload_n f143_15 rfl ?_
      refine ax_cvI (rest := []) f143_16 cl.o rfl rfl rfl rfl rfl rfl rfl rfl (u_124 cl) ?_
      rintro hh1 ⟨cl1, f1⟩
      have cl := cl1
      have w := w.fr f1 (by omega)
      have a := a.fr f1 (by omega)
      have l := l.fr f1 (by omega)
      have f := f.fr f1 (by omega)
      have b := b.fr f1 (by omega)
      have t := t.fr f1 (by omega)
      have nN := nN.fr f1 (by omega)
      have F := F.trans (f1.mono fun x e => by omega)
      rw [show bwy R = -1 from if_neg (by omega)]
      refine ax_iconst f143_19 ?_
      refine ax_icmp_ne f143_20 rfl ⟨by omega, by omega⟩ ⟨by omega, by omega⟩ (fun q20 => absurd q20 (by omega)) (fun q20 => ?_)
      refine ax_iconst f143_23 ?_
      refine ax_goto f143_24 rfl ?_
      refine ax_ireturn f143_28 rfl rfl ?_
      exact ⟨rfl, R, 0, 0, by decide, by decide, Lst_mk cl w a l f b t nN (fun j j1 j2 => rfl) (fun j j1 j2 => rfl) (fun j j1 j2 => rfl) (fun j j1 j2 => rfl) (fun j j1 j2 => rfl) (fun j j1 j2 => rfl) (fun j j1 j2 => rfl), gx_fr F⟩
end ACV
