/-! ===== all that is told of blocks ===== -/
section ABL
theorem fal_in {R : Int → Int} : ∀ (n : Nat) (k best most : Int), 0 ≤ k → k + n ≤ 12 → -1 ≤ best ∧ best ≤ 12 → -1 ≤ fal R n k best most ∧ fal R n k best most ≤ 12
  | 0, k, best, most, h1, h2, h3 => h3
  | n + 1, k, best, most, h1, h2, h3 => by
    show -1 ≤ (if most < ofZ R k then fal R n (k + 1) k (ofZ R k) else fal R n (k + 1) best most) ∧ (if most < ofZ R k then fal R n (k + 1) k (ofZ R k) else fal R n (k + 1) best most) ≤ 12
    split
    · exact fal_in n _ _ _ (by omega) (by omega) (by omega)
    · exact fal_in n _ _ _ (by omega) (by omega) h3
theorem lp_14 {d : Nat} {Q : am_R → am_H → Prop} {R : Int → Int} : ∀ (n : Nat) (k best most : Int) {h : am_H} {x10 x11 x12 x13 : Value} (cl : Lcl h R) (w : oI h 120 48 R) (a : oI h 121 48 (fun j => R (48 + j))) (f : oI h 123 48 (fun j => R (144 + j))) (b : oI h 124 24 (fun j => R (193 + j))) (nN : oI h 126 6 (nn R)) (h1 : k + n = blk R) (h2 : 0 ≤ k) (hb : -1 ≤ best ∧ best ≤ 12) (hm : 0 ≤ most ∧ most ≤ 10000) (kk : ∀ h' x7 x10 x11 x12 x13, Lcl h' R → fr (fun q => q < 120) h h' → am_X (d + 6) 14 256 [.ref 0, .ref 120, .ref 121, .ref 123, .ref 124, .ref 126, .int (iI (fal R n k best most)), x7, .int (iI 1), .int (iI (blk R)), x10, x11, x12, x13] [] h' Q), am_X (d + 6) 14 12 [.ref 0, .ref 120, .ref 121, .ref 123, .ref 124, .ref 126, .int (iI best), .int (iI most), .int (iI 1), .int (iI k), x10, x11, x12, x13] [] h Q
  | 0, k, best, most, h, x10, x11, x12, x13, cl, w, a, f, b, nN, h1, h2, hb, hm, kk => by
    have h1 : k = blk R := by omega
    subst h1
    have b12 := cl.i.b12
    refine ax_iload f14_12 rfl ?_
    refine ax_aload_n f14_14 rfl ?_
    refine ax_csI (rest := [_]) f14_15 (Or.inl rfl) rfl rfl rfl rfl rfl rfl (c_3 f) ?_
    intro _ e_
    obtain rfl := e_.symm
    clear e_
    refine ax_icmp_ge f14_18 rfl ⟨by omega, by omega⟩ ⟨by omega, by omega⟩ (fun q18 => ?_) (fun q18 => absurd q18 (by omega))
    exact kk h _ _ _ _ _ cl fr_rf
  | n + 1, k, best, most, h, x10, x11, x12, x13, cl, w, a, f, b, nN, h1, h2, hb, hm, kk => by
    have i := cl.i
    have h3 : k < blk R := by omega
    obtain ⟨b1, b2, b3⟩ := fro_lt i.ff h2 h3
    have b4 := (fro_sp i.ff k).1
    have b5 := (fro_sp i.ff (k + 1)).2.1
    have b6 := i.b12
    have td := i.td
    have su := i.su h2 (by omega)
    have li := i.li h2 (by omega)
    have gb := bok_in i.1.1 b4 (Int.le_of_lt b3) b5
    have gf := fld_in i.1.1 b4 (Int.le_of_lt b3) b5
    have ge := gon_e (R := R) i.1.2.1 b4 (Int.le_of_lt b3) b5
    have hof : 0 ≤ ofZ R k ∧ ofZ R k ≤ 10000 := by unfold ofZ; split <;> omega
    have F : fr (fun q => q < 120) h h := fr_rf
    have K127 : ∀ bs mo : Int, (-1 ≤ bs ∧ bs ≤ 12) → (0 ≤ mo ∧ mo ≤ 10000) → fal R n (k + 1) bs mo = fal R (n + 1) k best most → am_X (d + 6) 14 127 [.ref 0, .ref 120, .ref 121, .ref 123, .ref 124, .ref 126, .int (iI bs), .int (iI mo), .int (iI 1), .int (iI k), .int (iI (fro R k)), .int (iI (fro R (k + 1))), .int (iI (fld R (fro R k) (fro R (k + 1)))), .int (iI (ofZ R k))] [] h Q := by
      intro bs mo hb hm e
      refine ax_aload_n f14_127 rfl ?_
      refine ax_iload f14_128 rfl ?_
      refine ax_iconst f14_130 ?_
      refine ax_cvI (rest := []) f14_131 cl.o rfl rfl rfl rfl rfl rfl rfl rfl (u_113 cl ⟨h2, h3⟩ ⟨by omega, by omega⟩ (by omega)) ?_
      rintro hh1 ⟨cl1, f1⟩
      have cl := cl1
      have w := w.fr f1 (by omega)
      have a := a.fr f1 (by omega)
      have f := f.fr f1 (by omega)
      have b := b.fr f1 (by omega)
      have nN := nN.fr f1 (by omega)
      have F := F.trans (f1.mono fun x e => by omega)
      rw [show bof R k 0 = fro R k from rfl]
      refine ax_iload f14_134 rfl ?_
      refine ax_icmp_ne f14_136 rfl ⟨by omega, by omega⟩ ⟨by omega, by omega⟩ (fun q136 => absurd q136 (by omega)) (fun q136 => ?_)
      refine ax_aload_n f14_139 rfl ?_
      refine ax_iload f14_140 rfl ?_
      refine ax_iconst f14_142 ?_
      refine ax_cvI (rest := []) f14_143 cl.o rfl rfl rfl rfl rfl rfl rfl rfl (u_113 cl ⟨h2, h3⟩ ⟨by omega, by omega⟩ (by omega)) ?_
      rintro hh2 ⟨cl2, f2⟩
      have cl := cl2
      have w := w.fr f2 (by omega)
      have a := a.fr f2 (by omega)
      have f := f.fr f2 (by omega)
      have b := b.fr f2 (by omega)
      have nN := nN.fr f2 (by omega)
      have F := F.trans (f2.mono fun x e => by omega)
      rw [show bof R k 1 = fro R (k + 1) - fro R k from rfl]
      refine ax_iload f14_146 rfl ?_
      refine ax_iload f14_148 rfl ?_
      refine ax_isub f14_150 ?_
      refine ax_icmp_ne f14_151 rfl ⟨by omega, by omega⟩ ⟨by omega, by omega⟩ (fun q151 => absurd q151 (by omega)) (fun q151 => ?_)
      refine ax_aload_n f14_154 rfl ?_
      refine ax_iload f14_155 rfl ?_
      refine ax_iconst f14_157 ?_
      refine ax_cvI (rest := []) f14_158 cl.o rfl rfl rfl rfl rfl rfl rfl rfl (u_113 cl ⟨h2, h3⟩ ⟨by omega, by omega⟩ (by omega)) ?_
      rintro hh3 ⟨cl3, f3⟩
      have cl := cl3
      have w := w.fr f3 (by omega)
      have a := a.fr f3 (by omega)
      have f := f.fr f3 (by omega)
      have b := b.fr f3 (by omega)
      have nN := nN.fr f3 (by omega)
      have F := F.trans (f3.mono fun x e => by omega)
      rw [show bof R k 2 = bok R (fro R k) (fro R (k + 1)) from rfl]
      refine ax_aload_n f14_161 rfl ?_
      refine ax_iload f14_162 rfl ?_
      refine ax_iload f14_164 rfl ?_
      refine ax_csI (rest := [_]) f14_166 (Or.inl rfl) rfl rfl rfl rfl rfl rfl (c_5 w b4 (Int.le_of_lt b3) b5) ?_
      intro _ e_
      obtain rfl := e_.symm
      clear e_
      refine ax_icmp_ne f14_169 rfl ⟨by omega, by omega⟩ ⟨by omega, by omega⟩ (fun q169 => absurd q169 (by omega)) (fun q169 => ?_)
      refine ax_aload_n f14_172 rfl ?_
      refine ax_iload f14_173 rfl ?_
      refine ax_iconst f14_175 ?_
      refine ax_cvI (rest := []) f14_176 cl.o rfl rfl rfl rfl rfl rfl rfl rfl (u_113 cl ⟨h2, h3⟩ ⟨by omega, by omega⟩ (by omega)) ?_
      rintro hh4 ⟨cl4, f4⟩
      have cl := cl4
      have w := w.fr f4 (by omega)
      have a := a.fr f4 (by omega)
      have f := f.fr f4 (by omega)
      have b := b.fr f4 (by omega)
      have nN := nN.fr f4 (by omega)
      have F := F.trans (f4.mono fun x e => by omega)
      rw [show bof R k 3 = fld R (fro R k) (fro R (k + 1)) from rfl]
      refine ax_iload f14_179 rfl ?_
      refine ax_icmp_ne f14_181 rfl ⟨by omega, by omega⟩ ⟨by omega, by omega⟩ (fun q181 => absurd q181 (by omega)) (fun q181 => ?_)
      refine ax_aload_n f14_184 rfl ?_
      refine ax_iload f14_185 rfl ?_
      refine ax_iconst f14_187 ?_
      refine ax_cvI (rest := []) f14_188 cl.o rfl rfl rfl rfl rfl rfl rfl rfl (u_113 cl ⟨h2, h3⟩ ⟨by omega, by omega⟩ (by omega)) ?_
      rintro hh5 ⟨cl5, f5⟩
      have cl := cl5
      have w := w.fr f5 (by omega)
      have a := a.fr f5 (by omega)
      have f := f.fr f5 (by omega)
      have b := b.fr f5 (by omega)
      have nN := nN.fr f5 (by omega)
      have F := F.trans (f5.mono fun x e => by omega)
      rw [show bof R k 4 = R (205 + k) from rfl]
      refine ax_aload f14_191 rfl ?_
      refine ax_bipush f14_193 ?_
      refine ax_iload f14_195 rfl ?_
      refine ax_iadd f14_197 ?_
      refine ax_ialdO f14_198 (by decide) b (by omega) (by omega) rfl ?_
      rw [show 193 + (12 + k) = 205 + k by omega]
      refine ax_icmp_ne f14_199 rfl ⟨by omega, by omega⟩ ⟨by omega, by omega⟩ (fun q199 => absurd q199 (by omega)) (fun q199 => ?_)
      refine ax_aload f14_202 rfl ?_
      refine ax_iconst f14_204 ?_
      refine ax_ialdO f14_205 (by decide) nN (by omega) (by omega) rfl ?_
      rw [show nn R 0 = R 192 from rfl]
      refine ax_if_eq f14_206 rfl ⟨by omega, by omega⟩ (fun q206 => ?_) (fun q206 => ?_)
      · refine ax_iconst f14_243 ?_
        refine ax_goto f14_244 rfl ?_
        refine ax_istore (ls' := [_, _, _, _, _, _, _, _, _, _, _, _, _, _]) f14_248 (Nat.le_of_ble_eq_true rfl) rfl ?_
        refine ax_iinc (ls' := [_, _, _, _, _, _, _, _, _, _, _, _, _, _]) f14_250 rfl (Nat.le_of_ble_eq_true rfl) rfl ?_
        refine ax_goto f14_253 rfl ?_
        rw [← e] at kk
        exact lp_14 n (k + 1) bs mo cl w a f b nN (by omega) (by omega) hb hm (fun h' m z10 z11 z12 z13 c1 c2 => kk h' m z10 z11 z12 z13 c1 (F.trans c2))
      · refine ax_aload_n f14_209 rfl ?_
        refine ax_iload f14_210 rfl ?_
        refine ax_iconst f14_212 ?_
        refine ax_cvI (rest := []) f14_213 cl.o rfl rfl rfl rfl rfl rfl rfl rfl (u_113 cl ⟨h2, h3⟩ ⟨by omega, by omega⟩ (by omega)) ?_
        rintro hh1 ⟨cl1, f1⟩
        have cl := cl1
        have w := w.fr f1 (by omega)
        have a := a.fr f1 (by omega)
        have f := f.fr f1 (by omega)
        have b := b.fr f1 (by omega)
        have nN := nN.fr f1 (by omega)
        have F := F.trans (f1.mono fun x e => by omega)
        rw [show bof R k 5 = R (193 + k) from rfl]
        refine ax_aload f14_216 rfl ?_
        refine ax_iload f14_218 rfl ?_
        refine ax_ialdO f14_220 (by decide) b (by omega) (by omega) rfl ?_
        refine ax_icmp_ne f14_221 rfl ⟨by omega, by omega⟩ ⟨by omega, by omega⟩ (fun q221 => absurd q221 (by omega)) (fun q221 => ?_)
        refine ax_aload_n f14_224 rfl ?_
        refine ax_aload_n f14_225 rfl ?_
        refine ax_iload f14_226 rfl ?_
        refine ax_iload f14_228 rfl ?_
        refine ax_iload f14_230 rfl ?_
        refine ax_aload f14_232 rfl ?_
        refine ax_iload f14_234 rfl ?_
        refine ax_ialdO f14_236 (by decide) b (by omega) (by omega) rfl ?_
        refine ax_csI (rest := []) f14_237 (Or.inl rfl) rfl rfl rfl rfl rfl rfl (c_13 cl w ⟨h2, h3⟩ (by omega)) ?_
        rintro hh2 ⟨cl2, f2⟩
        have cl := cl2
        have w := w.fr f2 (by omega)
        have a := a.fr f2 (by omega)
        have f := f.fr f2 (by omega)
        have b := b.fr f2 (by omega)
        have nN := nN.fr f2 (by omega)
        have F := F.trans (f2.mono fun x e => by omega)
        refine ax_if_eq f14_240 rfl ⟨by omega, by omega⟩ (fun q240 => absurd q240 (by omega)) (fun q240 => ?_)
        refine ax_iconst f14_243 ?_
        refine ax_goto f14_244 rfl ?_
        refine ax_istore (ls' := [_, _, _, _, _, _, _, _, _, _, _, _, _, _]) f14_248 (Nat.le_of_ble_eq_true rfl) rfl ?_
        refine ax_iinc (ls' := [_, _, _, _, _, _, _, _, _, _, _, _, _, _]) f14_250 rfl (Nat.le_of_ble_eq_true rfl) rfl ?_
        refine ax_goto f14_253 rfl ?_
        rw [← e] at kk
        exact lp_14 n (k + 1) bs mo cl w a f b nN (by omega) (by omega) hb hm (fun h' m z10 z11 z12 z13 c1 c2 => kk h' m z10 z11 z12 z13 c1 (F.trans c2))
    have K93 : am_X (d + 6) 14 93 [.ref 0, .ref 120, .ref 121, .ref 123, .ref 124, .ref 126, .int (iI best), .int (iI most), .int (iI 1), .int (iI k), .int (iI (fro R k)), .int (iI (fro R (k + 1))), .int (iI (fld R (fro R k) (fro R (k + 1)))), x13] [.int (iI (ofZ R k))] h Q := by
      refine ax_istore (ls' := [_, _, _, _, _, _, _, _, _, _, _, _, _, _]) f14_93 (Nat.le_of_ble_eq_true rfl) rfl ?_
      refine ax_iload f14_95 rfl ?_
      refine ax_iload f14_97 rfl ?_
      refine ax_icmp_le f14_99 rfl ⟨by omega, by omega⟩ ⟨by omega, by omega⟩ (fun q99 => ?_) (fun q99 => ?_)
      · refine ax_iload f14_107 rfl ?_
        refine ax_istore (ls' := [_, _, _, _, _, _, _, _, _, _, _, _, _, _]) f14_109 (Nat.le_of_ble_eq_true rfl) rfl ?_
        refine ax_iload f14_111 rfl ?_
        refine ax_iload f14_113 rfl ?_
        refine ax_icmp_le f14_115 rfl ⟨by omega, by omega⟩ ⟨by omega, by omega⟩ (fun q115 => ?_) (fun q115 => absurd q115 (by omega))
        refine ax_iload f14_123 rfl ?_
        refine ax_istore (ls' := [_, _, _, _, _, _, _, _, _, _, _, _, _, _]) f14_125 (Nat.le_of_ble_eq_true rfl) rfl ?_
        exact K127 _ _ hb hm (by show _ = (if _ then _ else _); rw [if_neg (by omega)])
      · refine ax_iload f14_102 rfl ?_
        refine ax_goto f14_104 rfl ?_
        refine ax_istore (ls' := [_, _, _, _, _, _, _, _, _, _, _, _, _, _]) f14_109 (Nat.le_of_ble_eq_true rfl) rfl ?_
        refine ax_iload f14_111 rfl ?_
        refine ax_iload f14_113 rfl ?_
        refine ax_icmp_le f14_115 rfl ⟨by omega, by omega⟩ ⟨by omega, by omega⟩ (fun q115 => absurd q115 (by omega)) (fun q115 => ?_)
        refine ax_iload f14_118 rfl ?_
        refine ax_goto f14_120 rfl ?_
        refine ax_istore (ls' := [_, _, _, _, _, _, _, _, _, _, _, _, _, _]) f14_125 (Nat.le_of_ble_eq_true rfl) rfl ?_
        exact K127 _ _ ⟨by omega, by omega⟩ hof (by show _ = (if _ then _ else _); rw [if_pos (by omega)])
    refine ax_iload f14_12 rfl ?_
    refine ax_aload_n f14_14 rfl ?_
    refine ax_csI (rest := [_]) f14_15 (Or.inl rfl) rfl rfl rfl rfl rfl rfl (c_3 f) ?_
    intro _ e_
    obtain rfl := e_.symm
    clear e_
    refine ax_icmp_ge f14_18 rfl ⟨by omega, by omega⟩ ⟨by omega, by omega⟩ (fun q18 => absurd q18 (by omega)) (fun q18 => ?_)
    refine ax_iload f14_21 rfl ?_
    refine ax_if_eq f14_23 rfl ⟨by omega, by omega⟩ (fun q23 => absurd q23 (by omega)) (fun q23 => ?_)
    refine ax_aload_n f14_26 rfl ?_
    refine ax_iload f14_27 rfl ?_
    refine ax_csI (rest := []) f14_29 (Or.inl rfl) rfl rfl rfl rfl rfl rfl (c_4 f i.ff ⟨by omega, by omega⟩) ?_
    intro _ e_
    obtain rfl := e_.symm
    clear e_
    refine ax_istore (ls' := [_, _, _, _, _, _, _, _, _, _, _, _, _, _]) f14_32 (Nat.le_of_ble_eq_true rfl) rfl ?_
    refine ax_aload_n f14_34 rfl ?_
    refine ax_iload f14_35 rfl ?_
    refine ax_iconst f14_37 ?_
    refine ax_iadd f14_38 ?_
    refine ax_csI (rest := []) f14_39 (Or.inl rfl) rfl rfl rfl rfl rfl rfl (c_4 f i.ff ⟨by omega, by omega⟩) ?_
    intro _ e_
    obtain rfl := e_.symm
    clear e_
    refine ax_istore (ls' := [_, _, _, _, _, _, _, _, _, _, _, _, _, _]) f14_42 (Nat.le_of_ble_eq_true rfl) rfl ?_
    refine ax_aload_n f14_44 rfl ?_
    refine ax_iload f14_45 rfl ?_
    refine ax_iload f14_47 rfl ?_
    refine ax_csI (rest := []) f14_49 (Or.inl rfl) rfl rfl rfl rfl rfl rfl (c_5 w b4 (Int.le_of_lt b3) b5) ?_
    intro _ e_
    obtain rfl := e_.symm
    clear e_
    refine ax_aload_n f14_52 rfl ?_
    refine ax_aload_n f14_53 rfl ?_
    refine ax_iload f14_54 rfl ?_
    refine ax_iload f14_56 rfl ?_
    refine ax_csI (rest := [_]) f14_58 (Or.inl rfl) rfl rfl rfl rfl rfl rfl (c_6 w a b4 (by omega) (by omega) b5) ?_
    intro _ e_
    obtain rfl := e_.symm
    clear e_
    refine ax_isub f14_61 ?_
    rw [show bok R (fro R k) (fro R (k + 1)) - gon R (fro R k) (fro R (k + 1)) = fld R (fro R k) (fro R (k + 1)) by omega]
    refine ax_istore (ls' := [_, _, _, _, _, _, _, _, _, _, _, _, _, _]) f14_62 (Nat.le_of_ble_eq_true rfl) rfl ?_
    refine ax_aload f14_64 rfl ?_
    refine ax_iload f14_66 rfl ?_
    refine ax_ialdO f14_68 (by decide) b (by omega) (by omega) rfl ?_
    refine ax_iload f14_69 rfl ?_
    refine ax_icmp_le f14_71 rfl ⟨by omega, by omega⟩ ⟨by omega, by omega⟩ (fun q71 => ?_) (fun q71 => ?_)
    · refine ax_iload f14_85 rfl ?_
      refine ax_aload f14_87 rfl ?_
      refine ax_iload f14_89 rfl ?_
      refine ax_ialdO f14_91 (by decide) b (by omega) (by omega) rfl ?_
      refine ax_isub f14_92 ?_
      rw [show fld R (fro R k) (fro R (k + 1)) - R (193 + k) = ofZ R k by unfold ofZ; split <;> omega]
      exact K93
    · refine ax_aload f14_74 rfl ?_
      refine ax_iload f14_76 rfl ?_
      refine ax_ialdO f14_78 (by decide) b (by omega) (by omega) rfl ?_
      refine ax_iload f14_79 rfl ?_
      refine ax_isub f14_81 ?_
      refine ax_goto f14_82 rfl ?_
      rw [show R (193 + k) - fld R (fro R k) (fro R (k + 1)) = ofZ R k by unfold ofZ; split <;> omega]
      exact K93
theorem c_14 {h : am_H} {R : Int → Int} (cl : Lcl h R) (w : oI h 120 48 R) (a : oI h 121 48 (fun j => R (48 + j))) (f : oI h 123 48 (fun j => R (144 + j))) (b : oI h 124 24 (fun j => R (193 + j))) (nN : oI h 126 6 (nn R))  : am_X 6 14 0 (am_ent 14 [.ref 0, .ref 120, .ref 121, .ref 123, .ref 124, .ref 126]) [] h (fun r h' => rI r 1 ∧ (Lcl h' R ∧ fr (fun q => q < 120) h h')) := by
  show am_X 6 14 0 [.ref 0, .ref 120, .ref 121, .ref 123, .ref 124, .ref 126, am_u, am_u, am_u, am_u, am_u, am_u, am_u, am_u] [] h _
  refine ax_iconst f14_0 ?_
  refine ax_istore (ls' := [_, _, _, _, _, _, _, _, _, _, _, _, _, _]) f14_1 (Nat.le_of_ble_eq_true rfl) rfl ?_
  refine ax_iconst f14_3 ?_
  refine ax_istore (ls' := [_, _, _, _, _, _, _, _, _, _, _, _, _, _]) f14_4 (Nat.le_of_ble_eq_true rfl) rfl ?_
  refine ax_iconst f14_6 ?_
  refine ax_istore (ls' := [_, _, _, _, _, _, _, _, _, _, _, _, _, _]) f14_7 (Nat.le_of_ble_eq_true rfl) rfl ?_
  refine ax_iconst f14_9 ?_
  refine ax_istore (ls' := [_, _, _, _, _, _, _, _, _, _, _, _, _, _]) f14_10 (Nat.le_of_ble_eq_true rfl) rfl ?_
  have i := cl.i
  have b12 := i.b12
  have b1 := blk_1 i.ff
  have td := i.td
  have fi := fal_in (R := R) (blk R).toNat 0 (-1) 0 (by omega) (by omega) (by omega)
  have hfa : far R = if R 192 = 1 then fal R (blk R).toNat 0 (-1) 0 else -1 := rfl
  have hfb : R 192 = 1 → far R = fal R (blk R).toNat 0 (-1) 0 := fun z => by rw [hfa, if_pos z]
  have hfc : R 192 = 0 → far R = -1 := fun z => by rw [hfa, if_neg (by omega)]
  refine lp_14 (d := 0) (blk R).toNat 0 (-1) 0 cl w a f b nN (by omega) (by omega) (by omega) (by omega) (fun h1 x7 x10 x11 x12 x13 c1 c2 => ?_)
  have cl := c1
  have w := w.fr c2 (by omega)
  have a := a.fr c2 (by omega)
  have f := f.fr c2 (by omega)
  have b := b.fr c2 (by omega)
  have nN := nN.fr c2 (by omega)
  have F := c2
  refine ax_iload f14_256 rfl ?_
  refine ax_if_eq f14_258 rfl ⟨by omega, by omega⟩ (fun q258 => absurd q258 (by omega)) (fun q258 => ?_)
  refine ax_aload_n f14_261 rfl ?_
  refine ax_cvI (rest := []) f14_262 cl.o rfl rfl rfl rfl rfl rfl rfl rfl (u_129 cl) ?_
  rintro hh1 ⟨cl1, f1⟩
  have cl := cl1
  have w := w.fr f1 (by omega)
  have a := a.fr f1 (by omega)
  have f := f.fr f1 (by omega)
  have b := b.fr f1 (by omega)
  have nN := nN.fr f1 (by omega)
  have F := F.trans (f1.mono fun x e => by omega)
  refine ax_aload f14_265 rfl ?_
  refine ax_iconst f14_267 ?_
  refine ax_ialdO f14_268 (by decide) nN (by omega) (by omega) rfl ?_
  rw [show nn R 0 = R 192 from rfl]
  refine ax_if_ne f14_269 rfl ⟨by omega, by omega⟩ (fun q269 => ?_) (fun q269 => ?_)
  · refine ax_iload f14_276 rfl ?_
    refine ax_icmp_ne f14_278 rfl ⟨by omega, by omega⟩ ⟨by omega, by omega⟩ (fun q278 => absurd q278 (by omega)) (fun q278 => ?_)
    refine ax_iconst f14_281 ?_
    refine ax_goto f14_282 rfl ?_
    refine ax_ireturn f14_286 rfl rfl ?_
    exact ⟨rfl, cl, F⟩
  · refine ax_iconst f14_272 ?_
    refine ax_goto f14_273 rfl ?_
    refine ax_icmp_ne f14_278 rfl ⟨by omega, by omega⟩ ⟨by omega, by omega⟩ (fun q278 => absurd q278 (by omega)) (fun q278 => ?_)
    refine ax_iconst f14_281 ?_
    refine ax_goto f14_282 rfl ?_
    refine ax_ireturn f14_286 rfl rfl ?_
    exact ⟨rfl, cl, F⟩
end ABL
