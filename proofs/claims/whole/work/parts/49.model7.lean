/-! ===== the reference: commands ===== -/
section MCM
theorem c_192 {h : am_H} {R : Int → Int} {c th lk pa L sp fi se : Int} (o : Mo h c th lk pa L sp fi se) (a1 : oI h 121 270 R) (i : inv R) (hf : inI fi) (hs : inI se) {z : Int} (hs2 : z = 108 → inI (se - 2)) (hW : Wk h) (hc : z = 97 ∨ z = 99 ∨ z = 119 ∨ z = 102 ∨ z = 108 ∨ z = 115 ∨ z = 110 ∨ z = 107) : am_X 9 192 0 (am_ent 192 [.ref 120, .int (iI z)]) [] h (fun r h' => rI r (cmd R z fi se).1 ∧ (∃ lk' pa', Mo h' c th lk' pa' L sp fi se) ∧ oI h' 121 270 (cmd R z fi se).2 ∧ Wk h' ∧ fr (fun x => x = 120 ∨ x = 121 ∨ x = 126 ∨ x = 127 ∨ x = 128 ∨ x = 129) h h') := by
  show am_X 9 192 0 [.ref 120, .int (iI z)] [] h _
  have F : fr (fun x => x = 120 ∨ x = 121 ∨ x = 126 ∨ x = 127 ∨ x = 128 ∨ x = 129) h h := fr_rf
  rcases hc with hc | hc | hc | hc | hc | hc | hc | hc
  · subst hc
    refine ax_iload_n f192_0 rfl ?_
    refine ax_tswI f192_1 ⟨by omega, by omega⟩ (by omega) (by omega) rfl rfl ?_
    refine ax_aload_n f192_108 rfl ?_
    refine ax_aload_n f192_109 rfl ?_
    refine ax_getf f192_110 o rfl ?_
    refine ax_iload_n f192_113 rfl ?_
    refine ax_bipush f192_114 ?_
    refine ax_icmp_ne f192_116 rfl ⟨by omega, by omega⟩ ⟨by omega, by omega⟩ (fun q116 => absurd q116 (by omega)) (fun q116 => ?_)
    refine ax_iconst f192_119 ?_
    refine ax_goto f192_120 rfl ?_
    refine ax_cvI (rest := []) f192_124 o rfl rfl rfl rfl rfl rfl rfl rfl (c_159 o a1 hf (by omega)) ?_
    rintro h8 ⟨a18, f8⟩
    have hW := hW.mv f8 (by omega) (by omega) (by omega) (by omega)
    have o : Mo h8 _ _ _ _ _ _ _ _ := f8.at (q := 120) (by omega) o
    have a1 := a18
    have F := F.trans (f8.mono fun x e => by omega)
    refine ax_ireturn f192_127 rfl (nb1 b2i_in) ?_
    exact ⟨rI_of rfl, ⟨_, _, o⟩, a1, hW, F⟩
  · subst hc
    refine ax_iload_n f192_0 rfl ?_
    refine ax_tswI f192_1 ⟨by omega, by omega⟩ (by omega) (by omega) rfl rfl ?_
    refine ax_aload_n f192_108 rfl ?_
    refine ax_aload_n f192_109 rfl ?_
    refine ax_getf f192_110 o rfl ?_
    refine ax_iload_n f192_113 rfl ?_
    refine ax_bipush f192_114 ?_
    refine ax_icmp_ne f192_116 rfl ⟨by omega, by omega⟩ ⟨by omega, by omega⟩ (fun q116 => ?_) (fun q116 => absurd q116 (by omega))
    refine ax_iconst f192_123 ?_
    refine ax_cvI (rest := []) f192_124 o rfl rfl rfl rfl rfl rfl rfl rfl (c_159 o a1 hf (by omega)) ?_
    rintro h8 ⟨a18, f8⟩
    have hW := hW.mv f8 (by omega) (by omega) (by omega) (by omega)
    have o : Mo h8 _ _ _ _ _ _ _ _ := f8.at (q := 120) (by omega) o
    have a1 := a18
    have F := F.trans (f8.mono fun x e => by omega)
    refine ax_ireturn f192_127 rfl (nb1 b2i_in) ?_
    exact ⟨rI_of rfl, ⟨_, _, o⟩, a1, hW, F⟩
  · subst hc
    refine ax_iload_n f192_0 rfl ?_
    refine ax_tswI f192_1 ⟨by omega, by omega⟩ (by omega) (by omega) rfl rfl ?_
    refine ax_aload_n f192_128 rfl ?_
    refine ax_aload_n f192_129 rfl ?_
    refine ax_getf f192_130 o rfl ?_
    refine ax_aload_n f192_133 rfl ?_
    refine ax_getf f192_134 o rfl ?_
    refine ax_cvI (rest := []) f192_137 o rfl rfl rfl rfl rfl rfl rfl rfl (c_158 o a1 hf hs) ?_
    rintro h8 ⟨a18, f8⟩
    have hW := hW.mv f8 (by omega) (by omega) (by omega) (by omega)
    have o : Mo h8 _ _ _ _ _ _ _ _ := f8.at (q := 120) (by omega) o
    have a1 := a18
    have F := F.trans (f8.mono fun x e => by omega)
    refine ax_ireturn f192_140 rfl (nb1 b2i_in) ?_
    exact ⟨rI_of rfl, ⟨_, _, o⟩, a1, hW, F⟩
  · subst hc
    refine ax_iload_n f192_0 rfl ?_
    refine ax_tswI f192_1 ⟨by omega, by omega⟩ (by omega) (by omega) rfl rfl ?_
    refine ax_aload_n f192_141 rfl ?_
    refine ax_aload_n f192_142 rfl ?_
    refine ax_getf f192_143 o rfl ?_
    refine ax_iconst f192_146 ?_
    refine ax_cvI (rest := []) f192_147 o rfl rfl rfl rfl rfl rfl rfl rfl (c_162 o a1 i.ff i.b12 hf (by omega)) ?_
    rintro h8 ⟨a18, f8⟩
    have hW := hW.mv f8 (by omega) (by omega) (by omega) (by omega)
    have o : Mo h8 _ _ _ _ _ _ _ _ := f8.at (q := 120) (by omega) o
    have a1 := a18
    have F := F.trans (f8.mono fun x e => by omega)
    refine ax_ireturn f192_150 rfl (nb1 b2i_in) ?_
    exact ⟨rI_of rfl, ⟨_, _, o⟩, a1, hW, F⟩
  · subst hc
    refine ax_iload_n f192_0 rfl ?_
    refine ax_tswI f192_1 ⟨by omega, by omega⟩ (by omega) (by omega) rfl rfl ?_
    refine ax_aload_n f192_151 rfl ?_
    refine ax_aload_n f192_152 rfl ?_
    refine ax_getf f192_153 o rfl ?_
    refine ax_aload_n f192_156 rfl ?_
    refine ax_getf f192_157 o rfl ?_
    refine ax_iconst f192_160 ?_
    refine ax_isub f192_161 ?_
    refine ax_cvI (rest := []) f192_162 o rfl rfl rfl rfl rfl rfl rfl rfl (c_163 o a1 i.ff i.b12 hf (hs2 rfl)) ?_
    rintro h8 ⟨a18, f8⟩
    have hW := hW.mv f8 (by omega) (by omega) (by omega) (by omega)
    have o : Mo h8 _ _ _ _ _ _ _ _ := f8.at (q := 120) (by omega) o
    have a1 := a18
    have F := F.trans (f8.mono fun x e => by omega)
    refine ax_ireturn f192_165 rfl (nb1 b2i_in) ?_
    exact ⟨rI_of rfl, ⟨_, _, o⟩, a1, hW, F⟩
  · subst hc
    refine ax_iload_n f192_0 rfl ?_
    refine ax_tswI f192_1 ⟨by omega, by omega⟩ (by omega) (by omega) rfl rfl ?_
    refine ax_aload_n f192_166 rfl ?_
    refine ax_aload_n f192_167 rfl ?_
    refine ax_getf f192_168 o rfl ?_
    refine ax_cvI (rest := []) f192_171 o rfl rfl rfl rfl rfl rfl rfl rfl (c_170 o a1 i hf) ?_
    rintro h8 ⟨a18, f8⟩
    have hW := hW.mv f8 (by omega) (by omega) (by omega) (by omega)
    have o : Mo h8 _ _ _ _ _ _ _ _ := f8.at (q := 120) (by omega) o
    have a1 := a18
    have F := F.trans (f8.mono fun x e => by omega)
    refine ax_ireturn f192_174 rfl (nb1 b2i_in) ?_
    exact ⟨rI_of rfl, ⟨_, _, o⟩, a1, hW, F⟩
  · subst hc
    refine ax_iload_n f192_0 rfl ?_
    refine ax_tswI f192_1 ⟨by omega, by omega⟩ (by omega) (by omega) rfl rfl ?_
    refine ax_aload_n f192_175 rfl ?_
    refine ax_cvV (rest := []) f192_176 o rfl rfl rfl rfl rfl rfl rfl rfl (c_164 o a1 i.ff i.1.2.1 i.b12) ?_
    rintro h8 ⟨a18, f8⟩
    have hW := hW.mv f8 (by omega) (by omega) (by omega) (by omega)
    have o : Mo h8 _ _ _ _ _ _ _ _ := f8.at (q := 120) (by omega) o
    have a1 := a18
    have F := F.trans (f8.mono fun x e => by omega)
    refine ax_iconst f192_179 ?_
    refine ax_ireturn f192_180 rfl rfl ?_
    exact ⟨rI_of rfl, ⟨_, _, o⟩, a1, hW, F⟩
  · subst hc
    refine ax_iload_n f192_0 rfl ?_
    refine ax_tswI f192_1 ⟨by omega, by omega⟩ (by omega) (by omega) rfl rfl ?_
    refine ax_aload_n f192_181 rfl ?_
    refine ax_aload_n f192_182 rfl ?_
    refine ax_getf f192_183 o rfl ?_
    refine ax_cvI (rest := []) f192_186 o rfl rfl rfl rfl rfl rfl rfl rfl (c_166 o a1 i hf hW) ?_
    rintro h8 ⟨⟨lk8, pa8, o8⟩, a18, hW8, f8⟩
    have hW := hW8
    have o : Mo h8 _ _ _ _ _ _ _ _ := o8
    have a1 := a18
    have F := F.trans (f8.mono fun x e => by omega)
    refine ax_ireturn f192_189 rfl (nb1 b2i_in) ?_
    exact ⟨rI_of rfl, ⟨_, _, o⟩, a1, hW, F⟩
theorem lp_193 {d : Nat} {T : Int → Int} {c th L : Int} (hL : 0 ≤ L ∧ L ≤ 120) (hT : ∀ j, 0 ≤ j → j < L → 0 ≤ T j ∧ T j ≤ 255) : ∀ (n : Nat) {h : am_H} {R : Int → Int} {lk pa sp fi se lo : Int} {x2 x3 : Value} (o : Mo h c th lk pa L sp fi se) (a1 : oI h 121 270 R) (aT : oI h 130 120 T) (hW : Wk h) (i : inv R) (hE : epl T L n sp = -1), 121 ≤ sp + n → 1 ≤ sp ∧ sp ≤ 300 → am_X (d + 10) 193 49 [.ref 120, .int (iI lo), x2, x3] [] h (fun r h' => rI r (ldr T L n sp lo R).1 ∧ (∃ lk' pa' sp' fi' se', Mo h' c th lk' pa' L sp' fi' se') ∧ oI h' 121 270 (ldr T L n sp lo R).2 ∧ Wk h' ∧ fr (fun x => x = 120 ∨ x = 121 ∨ x = 126 ∨ x = 127 ∨ x = 128 ∨ x = 129) h h')
  | 0, h, R, lk, pa, sp, fi, se, lo, x2, x3, o, a1, aT, hW, i, hE, h1, h2 => by
    refine ax_aload_n f193_49 rfl ?_
    refine ax_getf f193_50 o rfl ?_
    refine ax_aload_n f193_53 rfl ?_
    refine ax_getf f193_54 o rfl ?_
    refine ax_icmp_ge f193_57 rfl ⟨by omega, by omega⟩ ⟨by omega, by omega⟩ (fun q57 => ?_) (fun q57 => absurd q57 (by omega))
    refine ax_iload_n f193_98 rfl ?_
    refine ax_ireturn f193_99 rfl rfl ?_
    exact ⟨rI_of rfl, ⟨_, _, _, _, _, o⟩, a1, hW, fr_rf⟩
  | n + 1, h, R, lk, pa, sp, fi, se, lo, x2, x3, o, a1, aT, hW, i, hE, h1, h2 => by
    refine ax_aload_n f193_49 rfl ?_
    refine ax_getf f193_50 o rfl ?_
    refine ax_aload_n f193_53 rfl ?_
    refine ax_getf f193_54 o rfl ?_
    refine ax_icmp_ge f193_57 rfl ⟨by omega, by omega⟩ ⟨by omega, by omega⟩ (fun q57 => ?_) (fun q57 => ?_)
    · have e : ldr T L (n + 1) sp lo R = (lo, R) := by
        show (if _ then _ else _) = _
        rw [if_neg]
        intro z
        have := rdc_L z
        omega
      rw [e]
      refine ax_iload_n f193_98 rfl ?_
      refine ax_ireturn f193_99 rfl rfl ?_
      exact ⟨rI_of rfl, ⟨_, _, _, _, _, o⟩, a1, hW, fr_rf⟩
    · refine ax_aload_n f193_60 rfl ?_
      refine ax_getf f193_61 o rfl ?_
      refine ax_aload_n f193_64 rfl ?_
      refine ax_getf f193_65 o rfl ?_
      refine ax_ialdO f193_68 (by decide) aT (by omega) (by omega) rfl ?_
      refine ax_istore_n (ls' := [_, _, _, _]) f193_69 (Nat.le_of_ble_eq_true rfl) rfl ?_
      refine ax_aload_n f193_70 rfl ?_
      refine ax_cvI (rest := []) f193_71 o rfl rfl rfl rfl rfl rfl rfl rfl (c_189 o aT hL hT ⟨by omega, by omega⟩) ?_
      rintro h8 ⟨⟨fi8, se8, o8, g8⟩, f8⟩
      have hW := hW.mv f8 (by omega) (by omega) (by omega) (by omega)
      have a := rdc_sp (T := T) (L := L) (p := sp)
      have es : sg T L sp = T sp := if_pos ⟨by omega, by omega⟩
      have hr : (rdc T L sp).1 = 1 := by
        unfold epl at hE
        rw [if_pos (by omega)] at hE
        by_cases c0 : (rdc T L sp).1 = 0
        · rw [if_pos c0] at hE
          omega
        · omega
      have hE2 : epl T L n (rdc T L sp).2 = -1 := by
        unfold epl at hE
        rw [if_pos (by omega), if_neg (by omega)] at hE
        exact hE
      obtain ⟨e1, e2⟩ := g8 hr
      have bF := fiN_in (T := T) (L := L) (p := sp)
      have bS := seN_in (T := T) (L := L) (p := sp)
      have hl := a.2.2.2 hr
      have hlL := rdc_L hr
      subst e1
      subst e2
      have o : Mo h8 _ _ _ _ _ _ _ _ := o8
      have a1 := a1.fr f8 (by omega)
      have aT := aT.fr f8 (by omega)
      refine ax_istore_n (ls' := [_, _, _, _]) f193_74 (Nat.le_of_ble_eq_true rfl) rfl ?_
      refine ax_iload_n f193_75 rfl ?_
      refine ax_iload_n f193_76 rfl ?_
      refine ax_if_eq f193_77 rfl ⟨by omega, by omega⟩ (fun q77 => absurd q77 (by omega)) (fun q77 => ?_)
      refine ax_aload_n f193_80 rfl ?_
      refine ax_iload_n f193_81 rfl ?_
      refine ax_cvI (rest := [_]) f193_82 o rfl rfl rfl rfl rfl rfl rfl rfl (c_192 o a1 i ⟨by omega, by omega⟩ ⟨by omega, by omega⟩ (fun _ => ⟨by omega, by omega⟩) hW (by omega)) ?_
      rw [← es]
      rintro h7 ⟨⟨lk7, pa7, o7⟩, a17, hW7, f7⟩
      have c01 := cmd_01 (R := R) (c := sg T L sp) (f := fiN T L sp) (s := seN T L sp)
      have o : Mo h7 _ _ _ _ _ _ _ _ := o7
      have a1 := a17
      have aT := aT.fr f7 (by omega)
      refine ax_if_eq f193_85 rfl ⟨by omega, by omega⟩ (fun q85 => ?_) (fun q85 => ?_)
      · refine ax_iconst f193_92 ?_
        refine ax_iadd f193_93 ?_
        refine ax_istore_n (ls' := [_, _, _, _]) f193_94 (Nat.le_of_ble_eq_true rfl) rfl ?_
        refine ax_goto f193_95 rfl ?_
        refine am_X_mono (lp_193 hL hT n (lo := lo + 1) (x2 := .int (iI (sg T L sp))) (x3 := .int (iI (rdc T L sp).1)) o a1 aT hW7 (cmd_inv i _ _ _) hE2 (by omega) ⟨by omega, by omega⟩) (Nat.le_refl _) ?_
        rintro r h' ⟨k1, k2, k3, k4, k5⟩
        have e : ldr T L (n + 1) sp lo R = ldr T L n (rdc T L sp).2 (lo + 1) (cmd R (sg T L sp) (fiN T L sp) (seN T L sp)).2 := by
          show (if _ then _ else _) = _
          rw [if_pos hr, if_neg (by omega)]
        rw [e]
        exact ⟨k1, k2, k3, k4, (f8.mono fun x e => by omega).trans (f7.trans k5)⟩
      · refine ax_iconst f193_88 ?_
        refine ax_goto f193_89 rfl ?_
        refine ax_iadd f193_93 ?_
        rw [Int.add_zero]
        refine ax_istore_n (ls' := [_, _, _, _]) f193_94 (Nat.le_of_ble_eq_true rfl) rfl ?_
        refine ax_goto f193_95 rfl ?_
        refine am_X_mono (lp_193 hL hT n (lo := lo) (x2 := .int (iI (sg T L sp))) (x3 := .int (iI (rdc T L sp).1)) o a1 aT hW7 (cmd_inv i _ _ _) hE2 (by omega) ⟨by omega, by omega⟩) (Nat.le_refl _) ?_
        rintro r h' ⟨k1, k2, k3, k4, k5⟩
        have e : ldr T L (n + 1) sp lo R = ldr T L n (rdc T L sp).2 (lo) (cmd R (sg T L sp) (fiN T L sp) (seN T L sp)).2 := by
          show (if _ then _ else _) = _
          rw [if_pos hr, if_pos (by omega)]
        rw [e]
        exact ⟨k1, k2, k3, k4, (f8.mono fun x e => by omega).trans (f7.trans k5)⟩
theorem c_194 {h : am_H} {R : Int → Int} {c th lk pa L sp fi se : Int} (o : Mo h c th lk pa L sp fi se) (a1 : oI h 121 270 R) (i : inv R) {z : Int} (h1 : 0 ≤ z ∧ z ≤ 10) : am_X 2 194 0 (am_ent 194 [.ref 120, .int (iI z)]) [] h (fun r h' => rI r (abt R z) ∧ h' = h) := by
  show am_X 2 194 0 [.ref 120, .int (iI z)] [] h _
  rcases (show z = 0 ∨ z = 1 ∨ z = 2 ∨ z = 3 ∨ z = 4 ∨ z = 5 ∨ z = 6 ∨ z = 7 ∨ z = 8 ∨ z = 9 ∨ z = 10 by omega) with rfl | rfl | rfl | rfl | rfl | rfl | rfl | rfl | rfl | rfl | rfl
  · refine ax_iload_n f194_0 rfl ?_
    refine ax_tswI f194_1 ⟨by omega, by omega⟩ (by omega) (by omega) rfl rfl ?_
    refine ax_aload_n f194_56 rfl ?_
    refine ax_cvI (rest := []) f194_57 o rfl rfl rfl rfl rfl rfl rfl rfl (c_151 o a1) ?_
    intro _ e_
    obtain rfl := e_.symm
    clear e_
    refine ax_ireturn f194_60 rfl rfl ?_
    exact ⟨rI_of rfl, rfl⟩
  · refine ax_iload_n f194_0 rfl ?_
    refine ax_tswI f194_1 ⟨by omega, by omega⟩ (by omega) (by omega) rfl rfl ?_
    refine ax_aload_n f194_61 rfl ?_
    refine ax_bipush f194_62 ?_
    refine ax_iconst f194_64 ?_
    refine ax_bipush f194_65 ?_
    refine ax_cvI (rest := []) f194_67 o rfl rfl rfl rfl rfl rfl rfl rfl (c_155 o a1 (by omega) (by omega) (by omega) (by omega)) ?_
    intro _ e_
    obtain rfl := e_.symm
    clear e_
    refine ax_ireturn f194_70 rfl rfl ?_
    exact ⟨rI_of rfl, rfl⟩
  · refine ax_iload_n f194_0 rfl ?_
    refine ax_tswI f194_1 ⟨by omega, by omega⟩ (by omega) (by omega) rfl rfl ?_
    refine ax_aload_n f194_71 rfl ?_
    refine ax_iconst f194_72 ?_
    refine ax_bipush f194_73 ?_
    refine ax_cvI (rest := []) f194_75 o rfl rfl rfl rfl rfl rfl rfl rfl (c_156 o a1 (by omega) (by omega) (by omega)) ?_
    intro _ e_
    obtain rfl := e_.symm
    clear e_
    refine ax_ireturn f194_78 rfl rfl ?_
    exact ⟨rI_of rfl, rfl⟩
  · refine ax_iload_n f194_0 rfl ?_
    refine ax_tswI f194_1 ⟨by omega, by omega⟩ (by omega) (by omega) rfl rfl ?_
    refine ax_aload_n f194_79 rfl ?_
    refine ax_iconst f194_80 ?_
    refine ax_bipush f194_81 ?_
    refine ax_cvI (rest := []) f194_83 o rfl rfl rfl rfl rfl rfl rfl rfl (c_157 o a1 i.1.2.1 (by omega) (by omega) (by omega)) ?_
    intro _ e_
    obtain rfl := e_.symm
    clear e_
    refine ax_ireturn f194_86 rfl rfl ?_
    exact ⟨rI_of rfl, rfl⟩
  · refine ax_iload_n f194_0 rfl ?_
    refine ax_tswI f194_1 ⟨by omega, by omega⟩ (by omega) (by omega) rfl rfl ?_
    refine ax_aload_n f194_87 rfl ?_
    refine ax_getf f194_88 o rfl ?_
    refine ax_sipush f194_91 ?_
    refine ax_ialdO f194_94 (by decide) a1 (by omega) (by omega) rfl ?_
    refine ax_ireturn f194_95 rfl rfl ?_
    exact ⟨rI_of rfl, rfl⟩
  · refine ax_iload_n f194_0 rfl ?_
    refine ax_tswI f194_1 ⟨by omega, by omega⟩ (by omega) (by omega) rfl rfl ?_
    refine ax_aload_n f194_96 rfl ?_
    refine ax_getf f194_97 o rfl ?_
    refine ax_sipush f194_100 ?_
    refine ax_ialdO f194_103 (by decide) a1 (by omega) (by omega) rfl ?_
    refine ax_ireturn f194_104 rfl rfl ?_
    exact ⟨rI_of rfl, rfl⟩
  · refine ax_iload_n f194_0 rfl ?_
    refine ax_tswI f194_1 ⟨by omega, by omega⟩ (by omega) (by omega) rfl rfl ?_
    refine ax_aload_n f194_105 rfl ?_
    refine ax_getf f194_106 o rfl ?_
    refine ax_sipush f194_109 ?_
    refine ax_ialdO f194_112 (by decide) a1 (by omega) (by omega) rfl ?_
    refine ax_ireturn f194_113 rfl rfl ?_
    exact ⟨rI_of rfl, rfl⟩
  · refine ax_iload_n f194_0 rfl ?_
    refine ax_tswI f194_1 ⟨by omega, by omega⟩ (by omega) (by omega) rfl rfl ?_
    refine ax_aload_n f194_114 rfl ?_
    refine ax_getf f194_115 o rfl ?_
    refine ax_sipush f194_118 ?_
    refine ax_ialdO f194_121 (by decide) a1 (by omega) (by omega) rfl ?_
    refine ax_ireturn f194_122 rfl rfl ?_
    exact ⟨rI_of rfl, rfl⟩
  · refine ax_iload_n f194_0 rfl ?_
    refine ax_tswI f194_1 ⟨by omega, by omega⟩ (by omega) (by omega) rfl rfl ?_
    refine ax_aload_n f194_123 rfl ?_
    refine ax_getf f194_124 o rfl ?_
    refine ax_sipush f194_127 ?_
    refine ax_ialdO f194_130 (by decide) a1 (by omega) (by omega) rfl ?_
    refine ax_ireturn f194_131 rfl rfl ?_
    exact ⟨rI_of rfl, rfl⟩
  · refine ax_iload_n f194_0 rfl ?_
    refine ax_tswI f194_1 ⟨by omega, by omega⟩ (by omega) (by omega) rfl rfl ?_
    refine ax_aload_n f194_132 rfl ?_
    refine ax_getf f194_133 o rfl ?_
    refine ax_sipush f194_136 ?_
    refine ax_ialdO f194_139 (by decide) a1 (by omega) (by omega) rfl ?_
    refine ax_ireturn f194_140 rfl rfl ?_
    exact ⟨rI_of rfl, rfl⟩
  · refine ax_iload_n f194_0 rfl ?_
    refine ax_tswO f194_1 ⟨by omega, by omega⟩ (by omega) rfl ?_
    refine ax_aload_n f194_141 rfl ?_
    refine ax_bipush f194_142 ?_
    refine ax_iconst f194_144 ?_
    refine ax_bipush f194_145 ?_
    refine ax_cvI (rest := []) f194_147 o rfl rfl rfl rfl rfl rfl rfl rfl (c_155 o a1 (by omega) (by omega) (by omega) (by omega)) ?_
    intro _ e_
    obtain rfl := e_.symm
    clear e_
    refine ax_ireturn f194_150 rfl rfl ?_
    exact ⟨rI_of rfl, rfl⟩
theorem c_196 {h : am_H} {R : Int → Int} {c th lk pa L sp fi se : Int} (o : Mo h c th lk pa L sp fi se) (a1 : oI h 121 270 R) {r0 z : Int} (h0 : 0 ≤ r0 ∧ r0 < 48) (h1 : 0 ≤ z ∧ z ≤ 4) : am_X 1 196 0 (am_ent 196 [.ref 120, .int (iI r0), .int (iI z)]) [] h (fun r h' => rI r (rof R r0 z) ∧ h' = h) := by
  show am_X 1 196 0 [.ref 120, .int (iI r0), .int (iI z)] [] h _
  rcases (show z = 0 ∨ z = 1 ∨ z = 2 ∨ z = 3 ∨ z = 4 by omega) with rfl | rfl | rfl | rfl | rfl
  · refine ax_iload_n f196_0 rfl ?_
    refine ax_tswI f196_1 ⟨by omega, by omega⟩ (by omega) (by omega) rfl rfl ?_
    refine ax_aload_n f196_32 rfl ?_
    refine ax_getf f196_33 o rfl ?_
    refine ax_iconst f196_36 ?_
    refine ax_iload_n f196_37 rfl ?_
    refine ax_iadd f196_38 ?_
    rw [Int.zero_add]
    refine ax_ialdO f196_39 (by decide) a1 (by omega) (by omega) rfl ?_
    refine ax_ireturn f196_40 rfl rfl ?_
    exact ⟨rI_of rfl, rfl⟩
  · refine ax_iload_n f196_0 rfl ?_
    refine ax_tswI f196_1 ⟨by omega, by omega⟩ (by omega) (by omega) rfl rfl ?_
    refine ax_aload_n f196_41 rfl ?_
    refine ax_getf f196_42 o rfl ?_
    refine ax_bipush f196_45 ?_
    refine ax_iload_n f196_47 rfl ?_
    refine ax_iadd f196_48 ?_
    refine ax_ialdO f196_49 (by decide) a1 (by omega) (by omega) rfl ?_
    refine ax_ireturn f196_50 rfl rfl ?_
    exact ⟨rI_of rfl, rfl⟩
  · refine ax_iload_n f196_0 rfl ?_
    refine ax_tswI f196_1 ⟨by omega, by omega⟩ (by omega) (by omega) rfl rfl ?_
    refine ax_aload_n f196_51 rfl ?_
    refine ax_getf f196_52 o rfl ?_
    refine ax_bipush f196_55 ?_
    refine ax_iload_n f196_57 rfl ?_
    refine ax_iadd f196_58 ?_
    refine ax_ialdO f196_59 (by decide) a1 (by omega) (by omega) rfl ?_
    refine ax_ireturn f196_60 rfl rfl ?_
    exact ⟨rI_of rfl, rfl⟩
  · refine ax_iload_n f196_0 rfl ?_
    refine ax_tswI f196_1 ⟨by omega, by omega⟩ (by omega) (by omega) rfl rfl ?_
    refine ax_aload_n f196_61 rfl ?_
    refine ax_iload_n f196_62 rfl ?_
    refine ax_cvI (rest := []) f196_63 o rfl rfl rfl rfl rfl rfl rfl rfl (c_153 o a1 h0.1 h0.2) ?_
    intro _ e_
    obtain rfl := e_.symm
    clear e_
    refine ax_ireturn f196_66 rfl rfl ?_
    exact ⟨rI_of rfl, rfl⟩
  · refine ax_iload_n f196_0 rfl ?_
    refine ax_tswO f196_1 ⟨by omega, by omega⟩ (by omega) rfl ?_
    refine ax_aload_n f196_67 rfl ?_
    refine ax_getf f196_68 o rfl ?_
    refine ax_sipush f196_71 ?_
    refine ax_iload_n f196_74 rfl ?_
    refine ax_iadd f196_75 ?_
    refine ax_ialdO f196_76 (by decide) a1 (by omega) (by omega) rfl ?_
    refine ax_ireturn f196_77 rfl rfl ?_
    exact ⟨rI_of rfl, rfl⟩
theorem c_198 {h : am_H} {R : Int → Int} {c th lk pa L sp fi se : Int} (o : Mo h c th lk pa L sp fi se) (a1 : oI h 121 270 R) (i : inv R) {n z : Int} (h0 : 0 ≤ n ∧ n < blk R) (h1 : 0 ≤ z ∧ z ≤ 5) : am_X 2 198 0 (am_ent 198 [.ref 120, .int (iI n), .int (iI z)]) [] h (fun r h' => rI r (bof R n z) ∧ h' = h) := by
  show am_X 2 198 0 [.ref 120, .int (iI n), .int (iI z), am_u, am_u] [] h _
  obtain ⟨b1, b2, b3⟩ := fro_lt i.ff h0.1 h0.2
  have b4 := (fro_sp i.ff n).1
  have b5 := (fro_sp i.ff (n + 1)).2.1
  have hb := i.b12
  rcases (show z = 0 ∨ z = 1 ∨ z = 2 ∨ z = 3 ∨ z = 4 ∨ z = 5 by omega) with rfl | rfl | rfl | rfl | rfl | rfl
  · refine ax_aload_n f198_0 rfl ?_
    refine ax_iload_n f198_1 rfl ?_
    refine ax_cvI (rest := []) f198_2 o rfl rfl rfl rfl rfl rfl rfl rfl (c_154 o a1 i.ff i.b12 ⟨by omega, by omega⟩) ?_
    intro _ e_
    obtain rfl := e_.symm
    clear e_
    refine ax_istore_n (ls' := [_, _, _, _, _]) f198_5 (Nat.le_of_ble_eq_true rfl) rfl ?_
    refine ax_aload_n f198_6 rfl ?_
    refine ax_iload_n f198_7 rfl ?_
    refine ax_iconst f198_8 ?_
    refine ax_iadd f198_9 ?_
    refine ax_cvI (rest := []) f198_10 o rfl rfl rfl rfl rfl rfl rfl rfl (c_154 o a1 i.ff i.b12 ⟨by omega, by omega⟩) ?_
    intro _ e_
    obtain rfl := e_.symm
    clear e_
    refine ax_istore (ls' := [_, _, _, _, _]) f198_13 (Nat.le_of_ble_eq_true rfl) rfl ?_
    refine ax_iload_n f198_15 rfl ?_
    refine ax_tswI f198_16 ⟨by omega, by omega⟩ (by omega) (by omega) rfl rfl ?_
    refine ax_iload_n f198_52 rfl ?_
    refine ax_ireturn f198_53 rfl rfl ?_
    exact ⟨rI_of rfl, rfl⟩
  · refine ax_aload_n f198_0 rfl ?_
    refine ax_iload_n f198_1 rfl ?_
    refine ax_cvI (rest := []) f198_2 o rfl rfl rfl rfl rfl rfl rfl rfl (c_154 o a1 i.ff i.b12 ⟨by omega, by omega⟩) ?_
    intro _ e_
    obtain rfl := e_.symm
    clear e_
    refine ax_istore_n (ls' := [_, _, _, _, _]) f198_5 (Nat.le_of_ble_eq_true rfl) rfl ?_
    refine ax_aload_n f198_6 rfl ?_
    refine ax_iload_n f198_7 rfl ?_
    refine ax_iconst f198_8 ?_
    refine ax_iadd f198_9 ?_
    refine ax_cvI (rest := []) f198_10 o rfl rfl rfl rfl rfl rfl rfl rfl (c_154 o a1 i.ff i.b12 ⟨by omega, by omega⟩) ?_
    intro _ e_
    obtain rfl := e_.symm
    clear e_
    refine ax_istore (ls' := [_, _, _, _, _]) f198_13 (Nat.le_of_ble_eq_true rfl) rfl ?_
    refine ax_iload_n f198_15 rfl ?_
    refine ax_tswI f198_16 ⟨by omega, by omega⟩ (by omega) (by omega) rfl rfl ?_
    refine ax_iload f198_54 rfl ?_
    refine ax_iload_n f198_56 rfl ?_
    refine ax_isub f198_57 ?_
    refine ax_ireturn f198_58 rfl rfl ?_
    exact ⟨rI_of rfl, rfl⟩
  · refine ax_aload_n f198_0 rfl ?_
    refine ax_iload_n f198_1 rfl ?_
    refine ax_cvI (rest := []) f198_2 o rfl rfl rfl rfl rfl rfl rfl rfl (c_154 o a1 i.ff i.b12 ⟨by omega, by omega⟩) ?_
    intro _ e_
    obtain rfl := e_.symm
    clear e_
    refine ax_istore_n (ls' := [_, _, _, _, _]) f198_5 (Nat.le_of_ble_eq_true rfl) rfl ?_
    refine ax_aload_n f198_6 rfl ?_
    refine ax_iload_n f198_7 rfl ?_
    refine ax_iconst f198_8 ?_
    refine ax_iadd f198_9 ?_
    refine ax_cvI (rest := []) f198_10 o rfl rfl rfl rfl rfl rfl rfl rfl (c_154 o a1 i.ff i.b12 ⟨by omega, by omega⟩) ?_
    intro _ e_
    obtain rfl := e_.symm
    clear e_
    refine ax_istore (ls' := [_, _, _, _, _]) f198_13 (Nat.le_of_ble_eq_true rfl) rfl ?_
    refine ax_iload_n f198_15 rfl ?_
    refine ax_tswI f198_16 ⟨by omega, by omega⟩ (by omega) (by omega) rfl rfl ?_
    refine ax_aload_n f198_59 rfl ?_
    refine ax_iload_n f198_60 rfl ?_
    refine ax_iload f198_61 rfl ?_
    refine ax_cvI (rest := []) f198_63 o rfl rfl rfl rfl rfl rfl rfl rfl (c_156 o a1 b4 (by omega) b5) ?_
    intro _ e_
    obtain rfl := e_.symm
    clear e_
    refine ax_ireturn f198_66 rfl rfl ?_
    exact ⟨rI_of rfl, rfl⟩
  · refine ax_aload_n f198_0 rfl ?_
    refine ax_iload_n f198_1 rfl ?_
    refine ax_cvI (rest := []) f198_2 o rfl rfl rfl rfl rfl rfl rfl rfl (c_154 o a1 i.ff i.b12 ⟨by omega, by omega⟩) ?_
    intro _ e_
    obtain rfl := e_.symm
    clear e_
    refine ax_istore_n (ls' := [_, _, _, _, _]) f198_5 (Nat.le_of_ble_eq_true rfl) rfl ?_
    refine ax_aload_n f198_6 rfl ?_
    refine ax_iload_n f198_7 rfl ?_
    refine ax_iconst f198_8 ?_
    refine ax_iadd f198_9 ?_
    refine ax_cvI (rest := []) f198_10 o rfl rfl rfl rfl rfl rfl rfl rfl (c_154 o a1 i.ff i.b12 ⟨by omega, by omega⟩) ?_
    intro _ e_
    obtain rfl := e_.symm
    clear e_
    refine ax_istore (ls' := [_, _, _, _, _]) f198_13 (Nat.le_of_ble_eq_true rfl) rfl ?_
    refine ax_iload_n f198_15 rfl ?_
    refine ax_tswI f198_16 ⟨by omega, by omega⟩ (by omega) (by omega) rfl rfl ?_
    refine ax_aload_n f198_67 rfl ?_
    refine ax_iload_n f198_68 rfl ?_
    refine ax_iload f198_69 rfl ?_
    refine ax_cvI (rest := []) f198_71 o rfl rfl rfl rfl rfl rfl rfl rfl (c_157 o a1 i.1.2.1 b4 (by omega) b5) ?_
    intro _ e_
    obtain rfl := e_.symm
    clear e_
    refine ax_ireturn f198_74 rfl rfl ?_
    exact ⟨rI_of rfl, rfl⟩
  · refine ax_aload_n f198_0 rfl ?_
    refine ax_iload_n f198_1 rfl ?_
    refine ax_cvI (rest := []) f198_2 o rfl rfl rfl rfl rfl rfl rfl rfl (c_154 o a1 i.ff i.b12 ⟨by omega, by omega⟩) ?_
    intro _ e_
    obtain rfl := e_.symm
    clear e_
    refine ax_istore_n (ls' := [_, _, _, _, _]) f198_5 (Nat.le_of_ble_eq_true rfl) rfl ?_
    refine ax_aload_n f198_6 rfl ?_
    refine ax_iload_n f198_7 rfl ?_
    refine ax_iconst f198_8 ?_
    refine ax_iadd f198_9 ?_
    refine ax_cvI (rest := []) f198_10 o rfl rfl rfl rfl rfl rfl rfl rfl (c_154 o a1 i.ff i.b12 ⟨by omega, by omega⟩) ?_
    intro _ e_
    obtain rfl := e_.symm
    clear e_
    refine ax_istore (ls' := [_, _, _, _, _]) f198_13 (Nat.le_of_ble_eq_true rfl) rfl ?_
    refine ax_iload_n f198_15 rfl ?_
    refine ax_tswI f198_16 ⟨by omega, by omega⟩ (by omega) (by omega) rfl rfl ?_
    refine ax_aload_n f198_75 rfl ?_
    refine ax_getf f198_76 o rfl ?_
    refine ax_sipush f198_79 ?_
    refine ax_iload_n f198_82 rfl ?_
    refine ax_iadd f198_83 ?_
    refine ax_ialdO f198_84 (by decide) a1 (by omega) (by omega) rfl ?_
    refine ax_ireturn f198_85 rfl rfl ?_
    exact ⟨rI_of rfl, rfl⟩
  · refine ax_aload_n f198_0 rfl ?_
    refine ax_iload_n f198_1 rfl ?_
    refine ax_cvI (rest := []) f198_2 o rfl rfl rfl rfl rfl rfl rfl rfl (c_154 o a1 i.ff i.b12 ⟨by omega, by omega⟩) ?_
    intro _ e_
    obtain rfl := e_.symm
    clear e_
    refine ax_istore_n (ls' := [_, _, _, _, _]) f198_5 (Nat.le_of_ble_eq_true rfl) rfl ?_
    refine ax_aload_n f198_6 rfl ?_
    refine ax_iload_n f198_7 rfl ?_
    refine ax_iconst f198_8 ?_
    refine ax_iadd f198_9 ?_
    refine ax_cvI (rest := []) f198_10 o rfl rfl rfl rfl rfl rfl rfl rfl (c_154 o a1 i.ff i.b12 ⟨by omega, by omega⟩) ?_
    intro _ e_
    obtain rfl := e_.symm
    clear e_
    refine ax_istore (ls' := [_, _, _, _, _]) f198_13 (Nat.le_of_ble_eq_true rfl) rfl ?_
    refine ax_iload_n f198_15 rfl ?_
    refine ax_tswO f198_16 ⟨by omega, by omega⟩ (by omega) rfl ?_
    refine ax_aload_n f198_86 rfl ?_
    refine ax_getf f198_87 o rfl ?_
    refine ax_sipush f198_90 ?_
    refine ax_iload_n f198_93 rfl ?_
    refine ax_iadd f198_94 ?_
    refine ax_ialdO f198_95 (by decide) a1 (by omega) (by omega) rfl ?_
    refine ax_ireturn f198_96 rfl rfl ?_
    exact ⟨rI_of rfl, rfl⟩
theorem c_222 {h : am_H} {R : Int → Int} {c th lk pa L sp fi se : Int} (o : Mo h c th lk pa L sp fi se) (a1 : oI h 121 270 R) (i : inv R) {n z : Int} (hn : inI n) (hz : 0 ≤ z ∧ z ≤ 10000) : am_X 2 222 0 (am_ent 222 [.ref 120, .int (iI n), .int (iI z)]) [] h (fun r h' => rI r (b2i ((0 ≤ n ∧ n < blk R) ∧ z ≤ fro R (n + 1) - fro R n)) ∧ h' = h) := by
  show am_X 2 222 0 [.ref 120, .int (iI n), .int (iI z)] [] h _
  have hb := i.b12
  by_cases c0 : 0 ≤ n ∧ n < blk R
  · have b4 := fro_sp i.ff n
    have b5 := fro_sp i.ff (n + 1)
    obtain ⟨b6, b7, _⟩ := b4
    obtain ⟨b8, b9, _⟩ := b5
    refine ax_aload_n f222_0 rfl ?_
    refine ax_iload_n f222_1 rfl ?_
    refine ax_cvI (rest := []) f222_2 o rfl rfl rfl rfl rfl rfl rfl rfl (c_152 o a1 i.ff i.b12 hn) ?_
    intro _ e_
    obtain rfl := e_.symm
    clear e_
    refine ax_nmI (b2i_t c0) ?_
    refine ax_if_eq f222_5 rfl ⟨by omega, by omega⟩ (fun q5 => absurd q5 (by omega)) (fun q5 => ?_)
    refine ax_aload_n f222_8 rfl ?_
    refine ax_iload_n f222_9 rfl ?_
    refine ax_iconst f222_10 ?_
    refine ax_iadd f222_11 ?_
    refine ax_cvI (rest := []) f222_12 o rfl rfl rfl rfl rfl rfl rfl rfl (c_154 o a1 i.ff i.b12 ⟨by omega, by omega⟩) ?_
    intro _ e_
    obtain rfl := e_.symm
    clear e_
    refine ax_aload_n f222_15 rfl ?_
    refine ax_iload_n f222_16 rfl ?_
    refine ax_cvI (rest := [_]) f222_17 o rfl rfl rfl rfl rfl rfl rfl rfl (c_154 o a1 i.ff i.b12 ⟨by omega, by omega⟩) ?_
    intro _ e_
    obtain rfl := e_.symm
    clear e_
    refine ax_isub f222_20 ?_
    refine ax_iload_n f222_21 rfl ?_
    refine ax_icmp_lt f222_22 rfl ⟨by omega, by omega⟩ ⟨by omega, by omega⟩ (fun q22 => ?_) (fun q22 => ?_)
    · refine ax_iconst f222_29 ?_
      refine ax_ireturn f222_30 rfl rfl ?_
      exact ⟨rI_of (b2i_f (by omega)).symm, rfl⟩
    · refine ax_iconst f222_25 ?_
      refine ax_goto f222_26 rfl ?_
      refine ax_ireturn f222_30 rfl rfl ?_
      exact ⟨rI_of (b2i_t (by omega)).symm, rfl⟩
  · refine ax_aload_n f222_0 rfl ?_
    refine ax_iload_n f222_1 rfl ?_
    refine ax_cvI (rest := []) f222_2 o rfl rfl rfl rfl rfl rfl rfl rfl (c_152 o a1 i.ff i.b12 hn) ?_
    intro _ e_
    obtain rfl := e_.symm
    clear e_
    refine ax_nmI (b2i_f c0) ?_
    refine ax_if_eq f222_5 rfl ⟨by omega, by omega⟩ (fun q5 => ?_) (fun q5 => absurd q5 (by omega))
    refine ax_iconst f222_29 ?_
    refine ax_ireturn f222_30 rfl rfl ?_
    exact ⟨rI_of (b2i_f (by omega)).symm, rfl⟩
theorem c_223 {h : am_H} {R : Int → Int} {c th lk pa L sp fi se : Int} (o : Mo h c th lk pa L sp fi se) (a1 : oI h 121 270 R) (i : inv R) (hW : Wk h) {g : Int} (hg : 0 ≤ g ∧ g < 100000) : am_X 9 223 0 (am_ent 223 [.ref 120, .int (iI (g / 10000)), .int (iI (g / 100 % 100)), .int (iI (g / 10 % 10)), .int (iI (g % 10))]) [] h (fun r h' => rI r (scs R g).1 ∧ (∃ lk' pa', Mo h' c th lk' pa' L sp fi se) ∧ oI h' 121 270 (scs R g).2 ∧ Wk h' ∧ fr (fun x => x = 120 ∨ x = 121 ∨ x = 126 ∨ x = 127 ∨ x = 128 ∨ x = 129) h h') := by
  show am_X 9 223 0 [.ref 120, .int (iI (g / 10000)), .int (iI (g / 100 % 100)), .int (iI (g / 10 % 10)), .int (iI (g % 10))] [] h _
  have F : fr (fun x => x = 120 ∨ x = 121 ∨ x = 126 ∨ x = 127 ∨ x = 128 ∨ x = 129) h h := fr_rf
  by_cases hK : g / 10000 = 1
  · refine ax_iload_n f223_0 rfl ?_
    refine ax_nmI hK ?_
    refine ax_tswI f223_1 ⟨by omega, by omega⟩ (by omega) (by omega) rfl rfl ?_
    refine ax_iload_n f223_52 rfl ?_
    refine ax_if_ne f223_53 rfl ⟨by omega, by omega⟩ (fun q53 => ?_) (fun q53 => ?_)
    · refine ax_iconst f223_85 ?_
      refine ax_ireturn f223_86 rfl rfl ?_
      have e : scs R g = (0, R) := by unfold scs; rw [if_pos hK, if_neg (by omega)]
      rw [e]
      exact ⟨rI_of rfl, ⟨_, _, o⟩, a1, hW, F⟩
    · refine ax_iload f223_56 rfl ?_
      refine ax_iconst f223_58 ?_
      refine ax_icmp_ge f223_59 rfl ⟨by omega, by omega⟩ ⟨by omega, by omega⟩ (fun q59 => ?_) (fun q59 => ?_)
      · refine ax_iconst f223_85 ?_
        refine ax_ireturn f223_86 rfl rfl ?_
        have e : scs R g = (0, R) := by unfold scs; rw [if_pos hK, if_neg (by omega)]
        rw [e]
        exact ⟨rI_of rfl, ⟨_, _, o⟩, a1, hW, F⟩
      · refine ax_aload_n f223_62 rfl ?_
        refine ax_iload_n f223_63 rfl ?_
        refine ax_iload f223_64 rfl ?_
        refine ax_iconst f223_66 ?_
        refine ax_icmp_ne f223_67 rfl ⟨by omega, by omega⟩ ⟨by omega, by omega⟩ (fun q67 => ?_) (fun q67 => ?_)
        · have ey : (if g % 10 = 1 then 1 else 0 : Int) = 0 := if_neg (by omega)
          have e : scs R g = (b2i (0 ≤ g / 100 % 100 ∧ g / 100 % 100 < 48), aAw R (g / 100 % 100) 0) := by unfold scs; rw [if_pos hK, if_pos (by omega), ey]
          refine ax_iconst f223_74 ?_
          refine ax_cvI (rest := []) f223_75 o rfl rfl rfl rfl rfl rfl rfl rfl (c_159 o a1 ⟨by omega, by omega⟩ (by omega)) ?_
          rintro h8 ⟨a18, f8⟩
          have hW := hW.mv f8 (by omega) (by omega) (by omega) (by omega)
          obtain ⟨bb, hbb⟩ : ∃ bb, b2i (0 ≤ g / 100 % 100 ∧ g / 100 % 100 < 48) = bb := ⟨_, rfl⟩
          have hb01 : bb = 0 ∨ bb = 1 := by rw [← hbb]; exact b2i_in
          rw [hbb] at e
          rw [hbb]
          have o : Mo h8 _ _ _ _ _ _ _ _ := f8.at (q := 120) (by omega) o
          have a1 := a18
          have F := F.trans (f8.mono fun x e => by omega)
          refine ax_if_eq f223_78 rfl ⟨by omega, by omega⟩ (fun q78 => ?_) (fun q78 => ?_)
          · refine ax_iconst f223_85 ?_
            refine ax_ireturn f223_86 rfl rfl ?_
            rw [e]
            exact ⟨rI_of (by show (0 : Int) = _; omega), ⟨_, _, o⟩, a1, hW, F⟩
          · refine ax_iconst f223_81 ?_
            refine ax_goto f223_82 rfl ?_
            refine ax_ireturn f223_86 rfl rfl ?_
            rw [e]
            exact ⟨rI_of (by show (1 : Int) = _; omega), ⟨_, _, o⟩, a1, hW, F⟩
        · have ey : (if g % 10 = 1 then 1 else 0 : Int) = 1 := if_pos (by omega)
          have e : scs R g = (b2i (0 ≤ g / 100 % 100 ∧ g / 100 % 100 < 48), aAw R (g / 100 % 100) 1) := by unfold scs; rw [if_pos hK, if_pos (by omega), ey]
          refine ax_iconst f223_70 ?_
          refine ax_goto f223_71 rfl ?_
          refine ax_cvI (rest := []) f223_75 o rfl rfl rfl rfl rfl rfl rfl rfl (c_159 o a1 ⟨by omega, by omega⟩ (by omega)) ?_
          rintro h8 ⟨a18, f8⟩
          have hW := hW.mv f8 (by omega) (by omega) (by omega) (by omega)
          obtain ⟨bb, hbb⟩ : ∃ bb, b2i (0 ≤ g / 100 % 100 ∧ g / 100 % 100 < 48) = bb := ⟨_, rfl⟩
          have hb01 : bb = 0 ∨ bb = 1 := by rw [← hbb]; exact b2i_in
          rw [hbb] at e
          rw [hbb]
          have o : Mo h8 _ _ _ _ _ _ _ _ := f8.at (q := 120) (by omega) o
          have a1 := a18
          have F := F.trans (f8.mono fun x e => by omega)
          refine ax_if_eq f223_78 rfl ⟨by omega, by omega⟩ (fun q78 => ?_) (fun q78 => ?_)
          · refine ax_iconst f223_85 ?_
            refine ax_ireturn f223_86 rfl rfl ?_
            rw [e]
            exact ⟨rI_of (by show (0 : Int) = _; omega), ⟨_, _, o⟩, a1, hW, F⟩
          · refine ax_iconst f223_81 ?_
            refine ax_goto f223_82 rfl ?_
            refine ax_ireturn f223_86 rfl rfl ?_
            rw [e]
            exact ⟨rI_of (by show (1 : Int) = _; omega), ⟨_, _, o⟩, a1, hW, F⟩
  have hK1 := hK
  clear hK
  by_cases hK : g / 10000 = 2
  · refine ax_iload_n f223_0 rfl ?_
    refine ax_nmI hK ?_
    refine ax_tswI f223_1 ⟨by omega, by omega⟩ (by omega) (by omega) rfl rfl ?_
    refine ax_iload_n f223_87 rfl ?_
    refine ax_if_ne f223_88 rfl ⟨by omega, by omega⟩ (fun q88 => ?_) (fun q88 => ?_)
    · refine ax_iconst f223_120 ?_
      refine ax_ireturn f223_121 rfl rfl ?_
      have e : scs R g = (0, R) := by unfold scs; rw [if_neg (by omega), if_pos hK, if_neg (by omega)]
      rw [e]
      exact ⟨rI_of rfl, ⟨_, _, o⟩, a1, hW, F⟩
    · refine ax_iload f223_91 rfl ?_
      refine ax_iconst f223_93 ?_
      refine ax_icmp_ge f223_94 rfl ⟨by omega, by omega⟩ ⟨by omega, by omega⟩ (fun q94 => ?_) (fun q94 => ?_)
      · refine ax_iconst f223_120 ?_
        refine ax_ireturn f223_121 rfl rfl ?_
        have e : scs R g = (0, R) := by unfold scs; rw [if_neg (by omega), if_pos hK, if_neg (by omega)]
        rw [e]
        exact ⟨rI_of rfl, ⟨_, _, o⟩, a1, hW, F⟩
      · refine ax_aload_n f223_97 rfl ?_
        refine ax_iload_n f223_98 rfl ?_
        refine ax_iload f223_99 rfl ?_
        refine ax_iconst f223_101 ?_
        refine ax_icmp_ne f223_102 rfl ⟨by omega, by omega⟩ ⟨by omega, by omega⟩ (fun q102 => ?_) (fun q102 => ?_)
        · have ey : (if g % 10 = 1 then 1 else 0 : Int) = 0 := if_neg (by omega)
          have e : scs R g = (b2i ((1 ≤ g / 100 % 100 ∧ g / 100 % 100 < 48) ∧ ((0 : Int) = 0 ∨ R (144 + g / 100 % 100) = 1 ∨ blk R ≤ 11)), aFe R (g / 100 % 100) 0) := by unfold scs; rw [if_neg (by omega), if_pos hK, if_pos (by omega), ey]
          refine ax_iconst f223_109 ?_
          refine ax_cvI (rest := []) f223_110 o rfl rfl rfl rfl rfl rfl rfl rfl (c_162 o a1 i.ff i.b12 ⟨by omega, by omega⟩ (by omega)) ?_
          rintro h8 ⟨a18, f8⟩
          have hW := hW.mv f8 (by omega) (by omega) (by omega) (by omega)
          obtain ⟨bb, hbb⟩ : ∃ bb, b2i ((1 ≤ g / 100 % 100 ∧ g / 100 % 100 < 48) ∧ ((0 : Int) = 0 ∨ R (144 + g / 100 % 100) = 1 ∨ blk R ≤ 11)) = bb := ⟨_, rfl⟩
          have hb01 : bb = 0 ∨ bb = 1 := by rw [← hbb]; exact b2i_in
          rw [hbb] at e
          rw [hbb]
          have o : Mo h8 _ _ _ _ _ _ _ _ := f8.at (q := 120) (by omega) o
          have a1 := a18
          have F := F.trans (f8.mono fun x e => by omega)
          refine ax_if_eq f223_113 rfl ⟨by omega, by omega⟩ (fun q113 => ?_) (fun q113 => ?_)
          · refine ax_iconst f223_120 ?_
            refine ax_ireturn f223_121 rfl rfl ?_
            rw [e]
            exact ⟨rI_of (by show (0 : Int) = _; omega), ⟨_, _, o⟩, a1, hW, F⟩
          · refine ax_iconst f223_116 ?_
            refine ax_goto f223_117 rfl ?_
            refine ax_ireturn f223_121 rfl rfl ?_
            rw [e]
            exact ⟨rI_of (by show (1 : Int) = _; omega), ⟨_, _, o⟩, a1, hW, F⟩
        · have ey : (if g % 10 = 1 then 1 else 0 : Int) = 1 := if_pos (by omega)
          have e : scs R g = (b2i ((1 ≤ g / 100 % 100 ∧ g / 100 % 100 < 48) ∧ ((1 : Int) = 0 ∨ R (144 + g / 100 % 100) = 1 ∨ blk R ≤ 11)), aFe R (g / 100 % 100) 1) := by unfold scs; rw [if_neg (by omega), if_pos hK, if_pos (by omega), ey]
          refine ax_iconst f223_105 ?_
          refine ax_goto f223_106 rfl ?_
          refine ax_cvI (rest := []) f223_110 o rfl rfl rfl rfl rfl rfl rfl rfl (c_162 o a1 i.ff i.b12 ⟨by omega, by omega⟩ (by omega)) ?_
          rintro h8 ⟨a18, f8⟩
          have hW := hW.mv f8 (by omega) (by omega) (by omega) (by omega)
          obtain ⟨bb, hbb⟩ : ∃ bb, b2i ((1 ≤ g / 100 % 100 ∧ g / 100 % 100 < 48) ∧ ((1 : Int) = 0 ∨ R (144 + g / 100 % 100) = 1 ∨ blk R ≤ 11)) = bb := ⟨_, rfl⟩
          have hb01 : bb = 0 ∨ bb = 1 := by rw [← hbb]; exact b2i_in
          rw [hbb] at e
          rw [hbb]
          have o : Mo h8 _ _ _ _ _ _ _ _ := f8.at (q := 120) (by omega) o
          have a1 := a18
          have F := F.trans (f8.mono fun x e => by omega)
          refine ax_if_eq f223_113 rfl ⟨by omega, by omega⟩ (fun q113 => ?_) (fun q113 => ?_)
          · refine ax_iconst f223_120 ?_
            refine ax_ireturn f223_121 rfl rfl ?_
            rw [e]
            exact ⟨rI_of (by show (0 : Int) = _; omega), ⟨_, _, o⟩, a1, hW, F⟩
          · refine ax_iconst f223_116 ?_
            refine ax_goto f223_117 rfl ?_
            refine ax_ireturn f223_121 rfl rfl ?_
            rw [e]
            exact ⟨rI_of (by show (1 : Int) = _; omega), ⟨_, _, o⟩, a1, hW, F⟩
  have hK2 := hK
  clear hK
  by_cases hK : g / 10000 = 3
  · refine ax_iload_n f223_0 rfl ?_
    refine ax_nmI hK ?_
    refine ax_tswI f223_1 ⟨by omega, by omega⟩ (by omega) (by omega) rfl rfl ?_
    refine ax_iload_n f223_122 rfl ?_
    refine ax_if_ne f223_123 rfl ⟨by omega, by omega⟩ (fun q123 => ?_) (fun q123 => ?_)
    · refine ax_iconst f223_142 ?_
      refine ax_ireturn f223_143 rfl rfl ?_
      have e : scs R g = (0, R) := by unfold scs; rw [if_neg (by omega), if_neg (by omega), if_pos hK, if_neg (by omega)]
      rw [e]
      exact ⟨rI_of rfl, ⟨_, _, o⟩, a1, hW, F⟩
    · have e : scs R g = (b2i ((0 ≤ g / 100 % 100 ∧ g / 100 % 100 < blk R) ∧ (-2 ≤ g % 10 - 2 ∧ g % 10 - 2 ≤ 2)), aLi R (g / 100 % 100) (g % 10 - 2)) := by unfold scs; rw [if_neg (by omega), if_neg (by omega), if_pos hK, if_pos (by omega)]
      refine ax_aload_n f223_126 rfl ?_
      refine ax_iload_n f223_127 rfl ?_
      refine ax_iload f223_128 rfl ?_
      refine ax_iconst f223_130 ?_
      refine ax_isub f223_131 ?_
      refine ax_cvI (rest := []) f223_132 o rfl rfl rfl rfl rfl rfl rfl rfl (c_163 o a1 i.ff i.b12 ⟨by omega, by omega⟩ ⟨by omega, by omega⟩) ?_
      rintro h8 ⟨a18, f8⟩
      have hW := hW.mv f8 (by omega) (by omega) (by omega) (by omega)
      obtain ⟨bb, hbb⟩ : ∃ bb, b2i ((0 ≤ g / 100 % 100 ∧ g / 100 % 100 < blk R) ∧ (-2 ≤ g % 10 - 2 ∧ g % 10 - 2 ≤ 2)) = bb := ⟨_, rfl⟩
      have hb01 : bb = 0 ∨ bb = 1 := by rw [← hbb]; exact b2i_in
      rw [hbb] at e
      rw [hbb]
      have o : Mo h8 _ _ _ _ _ _ _ _ := f8.at (q := 120) (by omega) o
      have a1 := a18
      have F := F.trans (f8.mono fun x e => by omega)
      refine ax_if_eq f223_135 rfl ⟨by omega, by omega⟩ (fun q135 => ?_) (fun q135 => ?_)
      · refine ax_iconst f223_142 ?_
        refine ax_ireturn f223_143 rfl rfl ?_
        rw [e]
        exact ⟨rI_of (by show (0 : Int) = _; omega), ⟨_, _, o⟩, a1, hW, F⟩
      · refine ax_iconst f223_138 ?_
        refine ax_goto f223_139 rfl ?_
        refine ax_ireturn f223_143 rfl rfl ?_
        rw [e]
        exact ⟨rI_of (by show (1 : Int) = _; omega), ⟨_, _, o⟩, a1, hW, F⟩
  have hK3 := hK
  clear hK
  by_cases hK : g / 10000 = 4
  · refine ax_iload_n f223_0 rfl ?_
    refine ax_nmI hK ?_
    refine ax_tswI f223_1 ⟨by omega, by omega⟩ (by omega) (by omega) rfl rfl ?_
    refine ax_iload_n f223_144 rfl ?_
    refine ax_if_ne f223_145 rfl ⟨by omega, by omega⟩ (fun q145 => ?_) (fun q145 => ?_)
    · refine ax_iconst f223_163 ?_
      refine ax_ireturn f223_164 rfl rfl ?_
      have e : scs R g = (0, R) := by unfold scs; rw [if_neg (by omega), if_neg (by omega), if_neg (by omega), if_pos hK, if_neg (by omega)]
      rw [e]
      exact ⟨rI_of rfl, ⟨_, _, o⟩, a1, hW, F⟩
    · refine ax_iload_n f223_148 rfl ?_
      refine ax_if_ne f223_149 rfl ⟨by omega, by omega⟩ (fun q149 => ?_) (fun q149 => ?_)
      · refine ax_iconst f223_163 ?_
        refine ax_ireturn f223_164 rfl rfl ?_
        have e : scs R g = (0, R) := by unfold scs; rw [if_neg (by omega), if_neg (by omega), if_neg (by omega), if_pos hK, if_neg (by omega)]
        rw [e]
        exact ⟨rI_of rfl, ⟨_, _, o⟩, a1, hW, F⟩
      · refine ax_iload f223_152 rfl ?_
        refine ax_if_ne f223_154 rfl ⟨by omega, by omega⟩ (fun q154 => ?_) (fun q154 => ?_)
        · refine ax_iconst f223_163 ?_
          refine ax_ireturn f223_164 rfl rfl ?_
          have e : scs R g = (0, R) := by unfold scs; rw [if_neg (by omega), if_neg (by omega), if_neg (by omega), if_pos hK, if_neg (by omega)]
          rw [e]
          exact ⟨rI_of rfl, ⟨_, _, o⟩, a1, hW, F⟩
        · have e : scs R g = (1, tel R) := by unfold scs; rw [if_neg (by omega), if_neg (by omega), if_neg (by omega), if_pos hK, if_pos (by omega)]
          refine ax_aload_n f223_157 rfl ?_
          refine ax_cvV (rest := []) f223_158 o rfl rfl rfl rfl rfl rfl rfl rfl (c_164 o a1 i.ff i.1.2.1 i.b12) ?_
          rintro h8 ⟨a18, f8⟩
          have hW := hW.mv f8 (by omega) (by omega) (by omega) (by omega)
          have o : Mo h8 _ _ _ _ _ _ _ _ := f8.at (q := 120) (by omega) o
          have a1 := a18
          have F := F.trans (f8.mono fun x e => by omega)
          refine ax_iconst f223_161 ?_
          refine ax_ireturn f223_162 rfl rfl ?_
          rw [e]
          exact ⟨rI_of rfl, ⟨_, _, o⟩, a1, hW, F⟩
  have hK4 := hK
  clear hK
  by_cases hK : g / 10000 = 5
  · refine ax_iload_n f223_0 rfl ?_
    refine ax_nmI hK ?_
    refine ax_tswI f223_1 ⟨by omega, by omega⟩ (by omega) (by omega) rfl rfl ?_
    refine ax_iload_n f223_165 rfl ?_
    refine ax_if_ne f223_166 rfl ⟨by omega, by omega⟩ (fun q166 => ?_) (fun q166 => ?_)
    · refine ax_iconst f223_186 ?_
      refine ax_ireturn f223_187 rfl rfl ?_
      have e : scs R g = (0, R) := by unfold scs; rw [if_neg (by omega), if_neg (by omega), if_neg (by omega), if_neg (by omega), if_pos hK, if_neg (by omega)]
      rw [e]
      exact ⟨rI_of rfl, ⟨_, _, o⟩, a1, hW, F⟩
    · refine ax_iload_n f223_169 rfl ?_
      refine ax_if_ne f223_170 rfl ⟨by omega, by omega⟩ (fun q170 => ?_) (fun q170 => ?_)
      · refine ax_iconst f223_186 ?_
        refine ax_ireturn f223_187 rfl rfl ?_
        have e : scs R g = (0, R) := by unfold scs; rw [if_neg (by omega), if_neg (by omega), if_neg (by omega), if_neg (by omega), if_pos hK, if_neg (by omega)]
        rw [e]
        exact ⟨rI_of rfl, ⟨_, _, o⟩, a1, hW, F⟩
      · have e : scs R g = (b2i ((0 ≤ g % 10 ∧ g % 10 < 3) ∧ (R 192 = 1 ∨ R 269 = 0)), aSk R (g % 10)) := by unfold scs; rw [if_neg (by omega), if_neg (by omega), if_neg (by omega), if_neg (by omega), if_pos hK, if_pos (by omega)]
        refine ax_aload_n f223_173 rfl ?_
        refine ax_iload f223_174 rfl ?_
        refine ax_cvI (rest := []) f223_176 o rfl rfl rfl rfl rfl rfl rfl rfl (c_166 o a1 i ⟨by omega, by omega⟩ hW) ?_
        rintro h8 ⟨⟨lk8, pa8, o8⟩, a18, hW8, f8⟩
        have hW := hW8
        obtain ⟨bb, hbb⟩ : ∃ bb, b2i ((0 ≤ g % 10 ∧ g % 10 < 3) ∧ (R 192 = 1 ∨ R 269 = 0)) = bb := ⟨_, rfl⟩
        have hb01 : bb = 0 ∨ bb = 1 := by rw [← hbb]; exact b2i_in
        rw [hbb] at e
        rw [hbb]
        have o : Mo h8 _ _ _ _ _ _ _ _ := o8
        have a1 := a18
        have F := F.trans (f8.mono fun x e => by omega)
        refine ax_if_eq f223_179 rfl ⟨by omega, by omega⟩ (fun q179 => ?_) (fun q179 => ?_)
        · refine ax_iconst f223_186 ?_
          refine ax_ireturn f223_187 rfl rfl ?_
          rw [e]
          exact ⟨rI_of (by show (0 : Int) = _; omega), ⟨_, _, o⟩, a1, hW, F⟩
        · refine ax_iconst f223_182 ?_
          refine ax_goto f223_183 rfl ?_
          refine ax_ireturn f223_187 rfl rfl ?_
          rw [e]
          exact ⟨rI_of (by show (1 : Int) = _; omega), ⟨_, _, o⟩, a1, hW, F⟩
  have hK5 := hK
  clear hK
  by_cases hK : g / 10000 = 6
  · have hlk := i.lk
    refine ax_iload_n f223_0 rfl ?_
    refine ax_nmI hK ?_
    refine ax_tswI f223_1 ⟨by omega, by omega⟩ (by omega) (by omega) rfl rfl ?_
    refine ax_aload_n f223_188 rfl ?_
    refine ax_getf f223_189 o rfl ?_
    refine ax_sipush f223_192 ?_
    refine ax_ialdO f223_195 (by decide) a1 (by omega) (by omega) rfl ?_
    refine ax_bipush f223_196 ?_
    refine ax_iload_n f223_198 rfl ?_
    refine ax_imul f223_199 ?_
    refine ax_bipush f223_200 ?_
    refine ax_iload_n f223_202 rfl ?_
    refine ax_imul f223_203 ?_
    refine ax_iadd f223_204 ?_
    refine ax_iload f223_205 rfl ?_
    refine ax_iadd f223_207 ?_
    refine ax_icmp_gt f223_208 rfl hlk ⟨by omega, by omega⟩ (fun q208 => ?_) (fun q208 => ?_)
    · refine ax_iconst f223_215 ?_
      refine ax_ireturn f223_216 rfl rfl ?_
      have e : scs R g = (b2i (R 217 ≤ g % 10000), R) := by unfold scs; rw [if_neg (by omega), if_neg (by omega), if_neg (by omega), if_neg (by omega), if_neg (by omega), if_pos hK]
      rw [e]
      exact ⟨rI_of (b2i_f (by omega)).symm, ⟨_, _, o⟩, a1, hW, F⟩
    · refine ax_iconst f223_211 ?_
      refine ax_goto f223_212 rfl ?_
      refine ax_ireturn f223_216 rfl rfl ?_
      have e : scs R g = (b2i (R 217 ≤ g % 10000), R) := by unfold scs; rw [if_neg (by omega), if_neg (by omega), if_neg (by omega), if_neg (by omega), if_neg (by omega), if_pos hK]
      rw [e]
      exact ⟨rI_of (b2i_t (by omega)).symm, ⟨_, _, o⟩, a1, hW, F⟩
  have hK6 := hK
  clear hK
  by_cases hK : g / 10000 = 7
  · refine ax_iload_n f223_0 rfl ?_
    refine ax_nmI hK ?_
    refine ax_tswI f223_1 ⟨by omega, by omega⟩ (by omega) (by omega) rfl rfl ?_
    refine ax_iload_n f223_217 rfl ?_
    refine ax_if_ne f223_218 rfl ⟨by omega, by omega⟩ (fun q218 => ?_) (fun q218 => ?_)
    · refine ax_iconst f223_247 ?_
      refine ax_ireturn f223_248 rfl rfl ?_
      have e : scs R g = (b2i (g / 10 % 10 = 0 ∧ (0 ≤ g / 100 % 100 ∧ g / 100 % 100 < 48) ∧ R (218 + g / 100 % 100) = g % 10), R) := by unfold scs; rw [if_neg (by omega), if_neg (by omega), if_neg (by omega), if_neg (by omega), if_neg (by omega), if_neg (by omega), if_pos hK]
      rw [e]
      exact ⟨rI_of (b2i_f (by omega)).symm, ⟨_, _, o⟩, a1, hW, F⟩
    · refine ax_iload_n f223_221 rfl ?_
      refine ax_csI (rest := []) f223_222 (Or.inl rfl) rfl rfl rfl rfl rfl rfl (c_147 ⟨by omega, by omega⟩) ?_
      intro _ e_
      obtain rfl := e_.symm
      clear e_
      by_cases c0 : 0 ≤ g / 100 % 100 ∧ g / 100 % 100 ≤ 47
      · have htk := i.tk c0.1 (by omega)
        refine ax_nmI (b2i_t c0) ?_
        refine ax_if_eq f223_225 rfl ⟨by omega, by omega⟩ (fun q225 => absurd q225 (by omega)) (fun q225 => ?_)
        refine ax_aload_n f223_228 rfl ?_
        refine ax_getf f223_229 o rfl ?_
        refine ax_sipush f223_232 ?_
        refine ax_iload_n f223_235 rfl ?_
        refine ax_iadd f223_236 ?_
        refine ax_ialdO f223_237 (by decide) a1 (by omega) (by omega) rfl ?_
        refine ax_iload f223_238 rfl ?_
        refine ax_icmp_ne f223_240 rfl ⟨by omega, by omega⟩ ⟨by omega, by omega⟩ (fun q240 => ?_) (fun q240 => ?_)
        · refine ax_iconst f223_247 ?_
          refine ax_ireturn f223_248 rfl rfl ?_
          have e : scs R g = (b2i (g / 10 % 10 = 0 ∧ (0 ≤ g / 100 % 100 ∧ g / 100 % 100 < 48) ∧ R (218 + g / 100 % 100) = g % 10), R) := by unfold scs; rw [if_neg (by omega), if_neg (by omega), if_neg (by omega), if_neg (by omega), if_neg (by omega), if_neg (by omega), if_pos hK]
          rw [e]
          exact ⟨rI_of (b2i_f (by omega)).symm, ⟨_, _, o⟩, a1, hW, F⟩
        · refine ax_iconst f223_243 ?_
          refine ax_goto f223_244 rfl ?_
          refine ax_ireturn f223_248 rfl rfl ?_
          have e : scs R g = (b2i (g / 10 % 10 = 0 ∧ (0 ≤ g / 100 % 100 ∧ g / 100 % 100 < 48) ∧ R (218 + g / 100 % 100) = g % 10), R) := by unfold scs; rw [if_neg (by omega), if_neg (by omega), if_neg (by omega), if_neg (by omega), if_neg (by omega), if_neg (by omega), if_pos hK]
          rw [e]
          exact ⟨rI_of (b2i_t (by omega)).symm, ⟨_, _, o⟩, a1, hW, F⟩
      · refine ax_nmI (b2i_f c0) ?_
        refine ax_if_eq f223_225 rfl ⟨by omega, by omega⟩ (fun q225 => ?_) (fun q225 => absurd q225 (by omega))
        refine ax_iconst f223_247 ?_
        refine ax_ireturn f223_248 rfl rfl ?_
        have e : scs R g = (b2i (g / 10 % 10 = 0 ∧ (0 ≤ g / 100 % 100 ∧ g / 100 % 100 < 48) ∧ R (218 + g / 100 % 100) = g % 10), R) := by unfold scs; rw [if_neg (by omega), if_neg (by omega), if_neg (by omega), if_neg (by omega), if_neg (by omega), if_neg (by omega), if_pos hK]
        rw [e]
        exact ⟨rI_of (b2i_f (by omega)).symm, ⟨_, _, o⟩, a1, hW, F⟩
  have hK7 := hK
  clear hK
  by_cases hK : g / 10000 = 8
  · refine ax_iload_n f223_0 rfl ?_
    refine ax_nmI hK ?_
    refine ax_tswI f223_1 ⟨by omega, by omega⟩ (by omega) (by omega) rfl rfl ?_
    refine ax_aload_n f223_249 rfl ?_
    refine ax_iload_n f223_250 rfl ?_
    refine ax_bipush f223_251 ?_
    refine ax_iload_n f223_253 rfl ?_
    refine ax_imul f223_254 ?_
    refine ax_iload f223_255 rfl ?_
    refine ax_iadd f223_257 ?_
    refine ax_cvI (rest := []) f223_258 o rfl rfl rfl rfl rfl rfl rfl rfl (c_222 o a1 i ⟨by omega, by omega⟩ (by omega)) ?_
    intro _ e_
    obtain rfl := e_.symm
    clear e_
    refine ax_ireturn f223_261 rfl (nb1 b2i_in) ?_
    have e : scs R g = (b2i ((0 ≤ g / 100 % 100 ∧ g / 100 % 100 < blk R) ∧ g % 100 ≤ fro R (g / 100 % 100 + 1) - fro R (g / 100 % 100)), R) := by unfold scs; rw [if_neg (by omega), if_neg (by omega), if_neg (by omega), if_neg (by omega), if_neg (by omega), if_neg (by omega), if_neg (by omega), if_pos hK]
    rw [e]
    exact ⟨rI_of (b2i_iff (by rw [show 10 * (g / 10 % 10) + g % 10 = g % 100 by omega])), ⟨_, _, o⟩, a1, hW, F⟩
  have hK8 := hK
  clear hK
  by_cases hK : g / 10000 = 9
  · have hmi := i.mi
    refine ax_iload_n f223_0 rfl ?_
    refine ax_nmI hK ?_
    refine ax_tswI f223_1 ⟨by omega, by omega⟩ (by omega) (by omega) rfl rfl ?_
    refine ax_iload_n f223_262 rfl ?_
    refine ax_if_ne f223_263 rfl ⟨by omega, by omega⟩ (fun q263 => ?_) (fun q263 => ?_)
    · refine ax_iconst f223_288 ?_
      refine ax_ireturn f223_289 rfl rfl ?_
      have e : scs R g = (b2i (g / 100 % 100 = 0 ∧ R 268 ≤ g % 100), R) := by unfold scs; rw [if_neg (by omega), if_neg (by omega), if_neg (by omega), if_neg (by omega), if_neg (by omega), if_neg (by omega), if_neg (by omega), if_neg (by omega), if_pos hK]
      rw [e]
      exact ⟨rI_of (b2i_f (by omega)).symm, ⟨_, _, o⟩, a1, hW, F⟩
    · refine ax_aload_n f223_266 rfl ?_
      refine ax_getf f223_267 o rfl ?_
      refine ax_sipush f223_270 ?_
      refine ax_ialdO f223_273 (by decide) a1 (by omega) (by omega) rfl ?_
      refine ax_bipush f223_274 ?_
      refine ax_iload_n f223_276 rfl ?_
      refine ax_imul f223_277 ?_
      refine ax_iload f223_278 rfl ?_
      refine ax_iadd f223_280 ?_
      refine ax_icmp_gt f223_281 rfl ⟨by omega, by omega⟩ ⟨by omega, by omega⟩ (fun q281 => ?_) (fun q281 => ?_)
      · refine ax_iconst f223_288 ?_
        refine ax_ireturn f223_289 rfl rfl ?_
        have e : scs R g = (b2i (g / 100 % 100 = 0 ∧ R 268 ≤ g % 100), R) := by unfold scs; rw [if_neg (by omega), if_neg (by omega), if_neg (by omega), if_neg (by omega), if_neg (by omega), if_neg (by omega), if_neg (by omega), if_neg (by omega), if_pos hK]
        rw [e]
        exact ⟨rI_of (b2i_f (by omega)).symm, ⟨_, _, o⟩, a1, hW, F⟩
      · refine ax_iconst f223_284 ?_
        refine ax_goto f223_285 rfl ?_
        refine ax_ireturn f223_289 rfl rfl ?_
        have e : scs R g = (b2i (g / 100 % 100 = 0 ∧ R 268 ≤ g % 100), R) := by unfold scs; rw [if_neg (by omega), if_neg (by omega), if_neg (by omega), if_neg (by omega), if_neg (by omega), if_neg (by omega), if_neg (by omega), if_neg (by omega), if_pos hK]
        rw [e]
        exact ⟨rI_of (b2i_t (by omega)).symm, ⟨_, _, o⟩, a1, hW, F⟩
  have hK9 := hK
  clear hK
  refine ax_iload_n f223_0 rfl ?_
  refine ax_tswO f223_1 ⟨by omega, by omega⟩ (by omega) rfl ?_
  refine ax_iconst f223_290 ?_
  refine ax_ireturn f223_291 rfl rfl ?_
  have e : scs R g = (0, R) := by unfold scs; rw [if_neg (by omega), if_neg (by omega), if_neg (by omega), if_neg (by omega), if_neg (by omega), if_neg (by omega), if_neg (by omega), if_neg (by omega), if_neg (by omega)]
  rw [e]
  exact ⟨rI_of rfl, ⟨_, _, o⟩, a1, hW, F⟩
end MCM
