/-! ===== what searches would bring ===== -/
section WLD
theorem gx_wg {S T : Nat → Prop} {h h1 h2 : am_H} {n m n' m' p : Nat} (g : gw h h1 p n m) (hp : h.1.length = p) (f : gx T h1 h2 n' m') (k : ∀ q, q < p → T q → S q) : gx S h h2 (n + n') (m + m') := by
  obtain ⟨a1, a2, a3, a4⟩ := g
  obtain ⟨b1, b2, b3, b4⟩ := f
  refine ⟨fun q q1 q2 => (b1 q (by omega) (fun z => q2 (k q (by omega) z))).trans (a1 q (by omega)), by omega, ?_, b4.trans a4⟩
  rw [b3, a3, Nat.add_assoc, Nat.add_assoc]
theorem lp_15r {d p : Nat} {Q : am_R → am_H → Prop} {R Fd : Int → Int} {h : am_H} {best least wy looks : Int} (a : oI h 121 48 (fun j => R (48 + j))) (bF : oI h p 48 Fd) : ∀ (n : Nat) (r : Int), r + n = 48 → 0 ≤ r → (kk : am_X d 15 131 [.ref 0, .ref 120, .ref 121, .ref 122, .ref 123, .ref 124, .ref 126, .ref p, .int (iI best), .int (iI least), .int (iI 1), .int (iI wy), .int (iI looks), .int (iI (sm Fd 0 48)), .int (iI (sm (fun j => Fd j * (1 - R (48 + j))) 0 48)), .int (iI (sm (fun j => (1 - Fd j) * R (48 + j)) 0 48)), .int (iI 48)] [] h Q) → am_X d 15 74 [.ref 0, .ref 120, .ref 121, .ref 122, .ref 123, .ref 124, .ref 126, .ref p, .int (iI best), .int (iI least), .int (iI 1), .int (iI wy), .int (iI looks), .int (iI (sm Fd 0 r.toNat)), .int (iI (sm (fun j => Fd j * (1 - R (48 + j))) 0 r.toNat)), .int (iI (sm (fun j => (1 - Fd j) * R (48 + j)) 0 r.toNat)), .int (iI r)] [] h Q
  | 0, r, h1, h2, kk => by
    have h1 : r = 48 := by omega
    subst h1
    refine ax_iload f15_74 rfl ?_
    refine ax_bipush f15_76 ?_
    refine ax_icmp_ge f15_78 rfl ⟨by omega, by omega⟩ ⟨by omega, by omega⟩ (fun q78 => ?_) (fun q78 => absurd q78 (by omega))
    exact kk
  | n + 1, r, h1, h2, kk => by
    have e1 : sm (Fd) 0 r.toNat + Fd r = sm (Fd) 0 (r + 1).toNat := by
      rw [show (r + 1).toNat = r.toNat + 1 by omega, sm_snoc, show (0 : Int) + (r.toNat : Int) = r by omega]
    have e2 : sm (fun j => Fd j * (1 - R (48 + j))) 0 r.toNat + Fd r * (1 - R (48 + r)) = sm (fun j => Fd j * (1 - R (48 + j))) 0 (r + 1).toNat := by
      rw [show (r + 1).toNat = r.toNat + 1 by omega, sm_snoc, show (0 : Int) + (r.toNat : Int) = r by omega]
    have e3 : sm (fun j => (1 - Fd j) * R (48 + j)) 0 r.toNat + (1 - Fd r) * R (48 + r) = sm (fun j => (1 - Fd j) * R (48 + j)) 0 (r + 1).toNat := by
      rw [show (r + 1).toNat = r.toNat + 1 by omega, sm_snoc, show (0 : Int) + (r.toNat : Int) = r by omega]
    refine ax_iload f15_74 rfl ?_
    refine ax_bipush f15_76 ?_
    refine ax_icmp_ge f15_78 rfl ⟨by omega, by omega⟩ ⟨by omega, by omega⟩ (fun q78 => absurd q78 (by omega)) (fun q78 => ?_)
    refine ax_iload f15_81 rfl ?_
    refine ax_aload f15_83 rfl ?_
    refine ax_iload f15_85 rfl ?_
    refine ax_ialdO f15_87 (by decide) bF (by omega) (by omega) rfl ?_
    refine ax_iadd f15_88 ?_
    rw [e1]
    refine ax_istore (ls' := [_, _, _, _, _, _, _, _, _, _, _, _, _, _, _, _, _]) f15_89 (Nat.le_of_ble_eq_true rfl) rfl ?_
    refine ax_iload f15_91 rfl ?_
    refine ax_aload f15_93 rfl ?_
    refine ax_iload f15_95 rfl ?_
    refine ax_ialdO f15_97 (by decide) bF (by omega) (by omega) rfl ?_
    refine ax_iconst f15_98 ?_
    refine ax_aload_n f15_99 rfl ?_
    refine ax_iload f15_100 rfl ?_
    refine ax_ialdO f15_102 (by decide) a (by omega) (by omega) rfl ?_
    refine ax_isub f15_103 ?_
    refine ax_imul f15_104 ?_
    refine ax_iadd f15_105 ?_
    rw [e2]
    refine ax_istore (ls' := [_, _, _, _, _, _, _, _, _, _, _, _, _, _, _, _, _]) f15_106 (Nat.le_of_ble_eq_true rfl) rfl ?_
    refine ax_iload f15_108 rfl ?_
    refine ax_iconst f15_110 ?_
    refine ax_aload f15_111 rfl ?_
    refine ax_iload f15_113 rfl ?_
    refine ax_ialdO f15_115 (by decide) bF (by omega) (by omega) rfl ?_
    refine ax_isub f15_116 ?_
    refine ax_aload_n f15_117 rfl ?_
    refine ax_iload f15_118 rfl ?_
    refine ax_ialdO f15_120 (by decide) a (by omega) (by omega) rfl ?_
    refine ax_imul f15_121 ?_
    refine ax_iadd f15_122 ?_
    rw [e3]
    refine ax_istore (ls' := [_, _, _, _, _, _, _, _, _, _, _, _, _, _, _, _, _]) f15_123 (Nat.le_of_ble_eq_true rfl) rfl ?_
    refine ax_iinc (ls' := [_, _, _, _, _, _, _, _, _, _, _, _, _, _, _, _, _]) f15_125 rfl (Nat.le_of_ble_eq_true rfl) rfl ?_
    refine ax_goto f15_128 rfl ?_
    exact lp_15r a bF n (r + 1) (by omega) (by omega) kk
theorem lp_15 {d p : Nat} (hp : 127 ≤ p) {Q : am_R → am_H → Prop} {R : Int → Int} {tot : Int} : ∀ (n : Nat) (wy best least : Int) {h : am_H} {Fd : Int → Int} {x12 x13 x14 x15 x16 : Value} (cl : Lcl h R) (w : oI h 120 48 R) (a : oI h 121 48 (fun j => R (48 + j))) (l : oI h 122 48 (fun j => R (96 + j))) (f : oI h 123 48 (fun j => R (144 + j))) (b : oI h 124 24 (fun j => R (193 + j))) (nN : oI h 126 6 (nn R)) (bF : oI h p 48 Fd) (hl : p < h.1.length) (h1 : wy + n = 3) (h2 : 0 ≤ wy) (can : R 192 = 1 ∨ R 269 = 0) (hb : ((wy = 0 ∧ best = -1 ∧ least = 0 ∧ tot = bwl R 2 1 0 ∧ n = 3) ∨ (0 < wy ∧ 0 ≤ best ∧ best < wy ∧ least = (sek R best).1 ∧ tot = bwl R n wy best))) (kk : ∀ h' x9 x12 x13 x14 x15 x16, Lcl h' R → gx (fun q => q < 120 ∨ q = p) h h' (5 * n) (256 * n) → am_X (d + 55) 15 229 [.ref 0, .ref 120, .ref 121, .ref 122, .ref 123, .ref 124, .ref 126, .ref p, .int (iI tot), x9, .int (iI 1), .int (iI 3), x12, x13, x14, x15, x16] [] h' Q), am_X (d + 55) 15 18 [.ref 0, .ref 120, .ref 121, .ref 122, .ref 123, .ref 124, .ref 126, .ref p, .int (iI best), .int (iI least), .int (iI 1), .int (iI wy), x12, x13, x14, x15, x16] [] h Q
  | 0, wy, best, least, h, Fd, x12, x13, x14, x15, x16, cl, w, a, l, f, b, nN, bF, hl, h1, h2, can, hb, kk => by
    have h1 : wy = 3 := by omega
    subst h1
    refine ax_iload f15_18 rfl ?_
    refine ax_iconst f15_20 ?_
    refine ax_icmp_ge f15_21 rfl ⟨by omega, by omega⟩ ⟨by omega, by omega⟩ (fun q21 => ?_) (fun q21 => absurd q21 (by omega))
    have ht : tot = best := by
      rcases hb with z | z
      · omega
      · exact z.2.2.2.2
    rw [← ht]
    exact kk h _ _ _ _ _ _ cl ((gx_fr fr_rf).cg rfl rfl)
  | n + 1, wy, best, least, h, Fd, x12, x13, x14, x15, x16, cl, w, a, l, f, b, nN, bF, hl, h1, h2, can, hb, kk => by
    have i0 := cl.i
    have td := i0.td
    have tr := i0.tr
    have K44 : am_X (d + 55) 15 44 [.ref 0, .ref 120, .ref 121, .ref 122, .ref 123, .ref 124, .ref 126, .ref p, .int (iI best), .int (iI least), .int (iI 1), .int (iI wy), x12, x13, x14, x15, x16] [] h Q := by
      have i := cl.i
      have hs := sek_sp i.ff i.b12 wy
      refine ax_aload_n f15_44 rfl ?_
      refine ax_aload_n f15_45 rfl ?_
      refine ax_aload_n f15_46 rfl ?_
      refine ax_aload f15_47 rfl ?_
      refine ax_aload f15_49 rfl ?_
      refine ax_aload f15_51 rfl ?_
      refine ax_iload f15_53 rfl ?_
      refine ax_aload f15_55 rfl ?_
      refine ax_csI (rest := []) f15_57 (Or.inl rfl) rfl rfl rfl rfl rfl rfl (c_11 (by omega) ⟨by omega, by omega, hl⟩ i (by omega) w a l f b nN bF) ?_
      rintro hq9 ⟨bF, g9⟩
      have w := w.gx g9 (by omega)
      have a := a.gx g9 (by omega)
      have l := l.gx g9 (by omega)
      have f := f.gx g9 (by omega)
      have b := b.gx g9 (by omega)
      have nN := nN.gx g9 (by omega)
      have cl := cl.gx g9 (by omega) (fun q hq => by omega)
      have hl : p < hq9.1.length := by have := g9.2.1; omega
      have F : fr (fun q => q < 120) hq9 hq9 := fr_rf
      refine ax_istore (ls' := [_, _, _, _, _, _, _, _, _, _, _, _, _, _, _, _, _]) f15_60 (Nat.le_of_ble_eq_true rfl) rfl ?_
      refine ax_iconst f15_62 ?_
      refine ax_istore (ls' := [_, _, _, _, _, _, _, _, _, _, _, _, _, _, _, _, _]) f15_63 (Nat.le_of_ble_eq_true rfl) rfl ?_
      refine ax_iconst f15_65 ?_
      refine ax_istore (ls' := [_, _, _, _, _, _, _, _, _, _, _, _, _, _, _, _, _]) f15_66 (Nat.le_of_ble_eq_true rfl) rfl ?_
      refine ax_iconst f15_68 ?_
      refine ax_istore (ls' := [_, _, _, _, _, _, _, _, _, _, _, _, _, _, _, _, _]) f15_69 (Nat.le_of_ble_eq_true rfl) rfl ?_
      refine ax_iconst f15_71 ?_
      refine ax_istore (ls' := [_, _, _, _, _, _, _, _, _, _, _, _, _, _, _, _, _]) f15_72 (Nat.le_of_ble_eq_true rfl) rfl ?_
      refine lp_15r a bF 48 0 (by omega) (by omega) ?_
      have i1 : isg R wy 1 = sm (sek R wy).2 0 48 := rfl
      have i2 : isg R wy 2 = sm (fun j => (sek R wy).2 j * (1 - R (48 + j))) 0 48 := by
        show sm (fun j => if R (48 + j) = 1 then 0 else (sek R wy).2 j) 0 48 = _
        refine sm_cong fun j j1 j2 => ?_
        rcases i.aw j1 (by omega) with z | z
        · rw [z, if_neg (by omega)]; omega
        · rw [z, if_pos rfl]; omega
      have i3 : isg R wy 3 = sm (fun j => (1 - (sek R wy).2 j) * R (48 + j)) 0 48 := by
        show sm (fun j => if (sek R wy).2 j = 1 then 0 else R (48 + j)) 0 48 = _
        refine sm_cong fun j j1 j2 => ?_
        rcases hs.1 j j1 (by omega) with z | z
        · rw [z, if_neg (by omega)]; omega
        · rw [z, if_pos rfl]; omega
      have n1 := sm01_in (g := (sek R wy).2) hs.1 (Nat.le_refl 48)
      have n2 := sm01_in (g := fun j => (sek R wy).2 j * (1 - R (48 + j))) (fun j j1 j2 => by
        show (sek R wy).2 j * (1 - R (48 + j)) = 0 ∨ (sek R wy).2 j * (1 - R (48 + j)) = 1
        rcases hs.1 j j1 j2 with z | z <;> rcases i.aw j1 j2 with y | y <;> rw [z, y] <;> decide) (Nat.le_refl 48)
      have n3 := sm01_in (g := fun j => (1 - (sek R wy).2 j) * R (48 + j)) (fun j j1 j2 => by
        show (1 - (sek R wy).2 j) * R (48 + j) = 0 ∨ (1 - (sek R wy).2 j) * R (48 + j) = 1
        rcases hs.1 j j1 j2 with z | z <;> rcases i.aw j1 j2 with y | y <;> rw [z, y] <;> decide) (Nat.le_refl 48)
      have K168 : ∀ bb ll : Int, ((wy + 1 = 0 ∧ bb = -1 ∧ ll = 0 ∧ tot = bwl R 2 1 0 ∧ n = 3) ∨ (0 < wy + 1 ∧ 0 ≤ bb ∧ bb < wy + 1 ∧ ll = (sek R bb).1 ∧ tot = bwl R n (wy + 1) bb)) → am_X (d + 55) 15 168 [.ref 0, .ref 120, .ref 121, .ref 122, .ref 123, .ref 124, .ref 126, .ref p, .int (iI bb), .int (iI ll), .int (iI 1), .int (iI wy), .int (iI (sek R wy).1), .int (iI (sm (sek R wy).2 0 48)), .int (iI (sm (fun j => (sek R wy).2 j * (1 - R (48 + j))) 0 48)), .int (iI (sm (fun j => (1 - (sek R wy).2 j) * R (48 + j)) 0 48)), .int (iI 48)] [] hq9 Q := by
        intro bb ll hb2
        refine ax_aload_n f15_168 rfl ?_
        refine ax_iload f15_169 rfl ?_
        refine ax_iconst f15_171 ?_
        refine ax_cvI (rest := []) f15_172 cl.o rfl rfl rfl rfl rfl rfl rfl rfl (u_123 cl ⟨by omega, by omega⟩ ⟨by omega, by omega⟩ can) ?_
        rintro hh1 ⟨cl1, f1⟩
        have cl := cl1
        have w := w.fr f1 (by omega)
        have a := a.fr f1 (by omega)
        have l := l.fr f1 (by omega)
        have f := f.fr f1 (by omega)
        have b := b.fr f1 (by omega)
        have nN := nN.fr f1 (by omega)
        have bF := bF.fr f1 (by omega)
        have F := F.trans (f1.mono fun x e => by omega)
        rw [show isg R wy 0 = (sek R wy).1 from rfl]
        refine ax_iload f15_175 rfl ?_
        refine ax_icmp_ne f15_177 rfl ⟨by omega, by omega⟩ ⟨by omega, by omega⟩ (fun q177 => absurd q177 (by omega)) (fun q177 => ?_)
        refine ax_aload_n f15_180 rfl ?_
        refine ax_iload f15_181 rfl ?_
        refine ax_iconst f15_183 ?_
        refine ax_cvI (rest := []) f15_184 cl.o rfl rfl rfl rfl rfl rfl rfl rfl (u_123 cl ⟨by omega, by omega⟩ ⟨by omega, by omega⟩ can) ?_
        rintro hh2 ⟨cl2, f2⟩
        have cl := cl2
        have w := w.fr f2 (by omega)
        have a := a.fr f2 (by omega)
        have l := l.fr f2 (by omega)
        have f := f.fr f2 (by omega)
        have b := b.fr f2 (by omega)
        have nN := nN.fr f2 (by omega)
        have bF := bF.fr f2 (by omega)
        have F := F.trans (f2.mono fun x e => by omega)
        rw [i1]
        refine ax_iload f15_187 rfl ?_
        refine ax_icmp_ne f15_189 rfl ⟨by omega, by omega⟩ ⟨by omega, by omega⟩ (fun q189 => absurd q189 (by omega)) (fun q189 => ?_)
        refine ax_aload_n f15_192 rfl ?_
        refine ax_iload f15_193 rfl ?_
        refine ax_iconst f15_195 ?_
        refine ax_cvI (rest := []) f15_196 cl.o rfl rfl rfl rfl rfl rfl rfl rfl (u_123 cl ⟨by omega, by omega⟩ ⟨by omega, by omega⟩ can) ?_
        rintro hh3 ⟨cl3, f3⟩
        have cl := cl3
        have w := w.fr f3 (by omega)
        have a := a.fr f3 (by omega)
        have l := l.fr f3 (by omega)
        have f := f.fr f3 (by omega)
        have b := b.fr f3 (by omega)
        have nN := nN.fr f3 (by omega)
        have bF := bF.fr f3 (by omega)
        have F := F.trans (f3.mono fun x e => by omega)
        rw [i2]
        refine ax_iload f15_199 rfl ?_
        refine ax_icmp_ne f15_201 rfl ⟨by omega, by omega⟩ ⟨by omega, by omega⟩ (fun q201 => absurd q201 (by omega)) (fun q201 => ?_)
        refine ax_aload_n f15_204 rfl ?_
        refine ax_iload f15_205 rfl ?_
        refine ax_iconst f15_207 ?_
        refine ax_cvI (rest := []) f15_208 cl.o rfl rfl rfl rfl rfl rfl rfl rfl (u_123 cl ⟨by omega, by omega⟩ ⟨by omega, by omega⟩ can) ?_
        rintro hh4 ⟨cl4, f4⟩
        have cl := cl4
        have w := w.fr f4 (by omega)
        have a := a.fr f4 (by omega)
        have l := l.fr f4 (by omega)
        have f := f.fr f4 (by omega)
        have b := b.fr f4 (by omega)
        have nN := nN.fr f4 (by omega)
        have bF := bF.fr f4 (by omega)
        have F := F.trans (f4.mono fun x e => by omega)
        rw [i3]
        refine ax_iload f15_211 rfl ?_
        refine ax_icmp_ne f15_213 rfl ⟨by omega, by omega⟩ ⟨by omega, by omega⟩ (fun q213 => absurd q213 (by omega)) (fun q213 => ?_)
        refine ax_iconst f15_216 ?_
        refine ax_goto f15_217 rfl ?_
        refine ax_istore (ls' := [_, _, _, _, _, _, _, _, _, _, _, _, _, _, _, _, _]) f15_221 (Nat.le_of_ble_eq_true rfl) rfl ?_
        refine ax_iinc (ls' := [_, _, _, _, _, _, _, _, _, _, _, _, _, _, _, _, _]) f15_223 rfl (Nat.le_of_ble_eq_true rfl) rfl ?_
        refine ax_goto f15_226 rfl ?_
        refine lp_15 (d := d) hp n (wy + 1) bb ll cl w a l f b nN bF (by rw [F.1]; exact hl) (by omega) (by omega) can hb2 (fun h' y9 y12 y13 y14 y15 y16 c1 c2 => kk h' y9 y12 y13 y14 y15 y16 c1 (((g9.mono fun q e => Or.inr e).tr ((gx_fr (F.mono fun q e => Or.inl e)).tr c2)).cg (by omega) (by omega)))
      have hbx : -1 ≤ best ∧ best ≤ 3 ∧ 0 ≤ least ∧ least ≤ 200 := by
        rcases hb with z | z
        · omega
        · have := sek_sp i.ff i.b12 best
          omega
      refine ax_iload f15_131 rfl ?_
      refine ax_if_lt f15_133 rfl ⟨by omega, by omega⟩ (fun q133 => ?_) (fun q133 => ?_)
      · refine ax_iload f15_143 rfl ?_
        refine ax_goto f15_145 rfl ?_
        refine ax_istore (ls' := [_, _, _, _, _, _, _, _, _, _, _, _, _, _, _, _, _]) f15_150 (Nat.le_of_ble_eq_true rfl) rfl ?_
        refine ax_iload f15_152 rfl ?_
        refine ax_iload f15_154 rfl ?_
        refine ax_icmp_ne f15_156 rfl ⟨by omega, by omega⟩ ⟨by omega, by omega⟩ (fun q156 => absurd q156 (by omega)) (fun q156 => ?_)
        refine ax_iload f15_159 rfl ?_
        refine ax_goto f15_161 rfl ?_
        refine ax_istore (ls' := [_, _, _, _, _, _, _, _, _, _, _, _, _, _, _, _, _]) f15_166 (Nat.le_of_ble_eq_true rfl) rfl ?_
        refine K168 _ _ (Or.inr ⟨by omega, by omega, by omega, rfl, ?_⟩)
        rcases hb with z | z
        · have en : n = 2 := by omega
          rw [z.2.2.2.1, z.1, en]; rfl
        · rw [z.2.2.2.2]
          show bwl R n (wy + 1) (if (sek R wy).1 < (sek R best).1 then wy else best) = _
          rw [if_pos (by omega)]
      · refine ax_iload f15_136 rfl ?_
        refine ax_iload f15_138 rfl ?_
        refine ax_icmp_ge f15_140 rfl ⟨by omega, by omega⟩ ⟨by omega, by omega⟩ (fun q140 => ?_) (fun q140 => ?_)
        · refine ax_iload f15_148 rfl ?_
          refine ax_istore (ls' := [_, _, _, _, _, _, _, _, _, _, _, _, _, _, _, _, _]) f15_150 (Nat.le_of_ble_eq_true rfl) rfl ?_
          refine ax_iload f15_152 rfl ?_
          refine ax_iload f15_154 rfl ?_
          refine ax_icmp_ne f15_156 rfl ⟨by omega, by omega⟩ ⟨by omega, by omega⟩ (fun q156 => ?_) (fun q156 => absurd q156 (by omega))
          refine ax_iload f15_164 rfl ?_
          refine ax_istore (ls' := [_, _, _, _, _, _, _, _, _, _, _, _, _, _, _, _, _]) f15_166 (Nat.le_of_ble_eq_true rfl) rfl ?_
          refine K168 _ _ (Or.inr ?_)
          rcases hb with z | z
          · omega
          · refine ⟨by omega, by omega, by omega, z.2.2.2.1, ?_⟩
            rw [z.2.2.2.2]
            show bwl R n (wy + 1) (if (sek R wy).1 < (sek R best).1 then wy else best) = _
            rw [if_neg (by omega)]
        · refine ax_iload f15_143 rfl ?_
          refine ax_goto f15_145 rfl ?_
          refine ax_istore (ls' := [_, _, _, _, _, _, _, _, _, _, _, _, _, _, _, _, _]) f15_150 (Nat.le_of_ble_eq_true rfl) rfl ?_
          refine ax_iload f15_152 rfl ?_
          refine ax_iload f15_154 rfl ?_
          refine ax_icmp_ne f15_156 rfl ⟨by omega, by omega⟩ ⟨by omega, by omega⟩ (fun q156 => absurd q156 (by omega)) (fun q156 => ?_)
          refine ax_iload f15_159 rfl ?_
          refine ax_goto f15_161 rfl ?_
          refine ax_istore (ls' := [_, _, _, _, _, _, _, _, _, _, _, _, _, _, _, _, _]) f15_166 (Nat.le_of_ble_eq_true rfl) rfl ?_
          refine K168 _ _ (Or.inr ⟨by omega, by omega, by omega, rfl, ?_⟩)
          rcases hb with z | z
          · have en : n = 2 := by omega
            rw [z.2.2.2.1, z.1, en]; rfl
          · rw [z.2.2.2.2]
            show bwl R n (wy + 1) (if (sek R wy).1 < (sek R best).1 then wy else best) = _
            rw [if_pos (by omega)]
    refine ax_iload f15_18 rfl ?_
    refine ax_iconst f15_20 ?_
    refine ax_icmp_ge f15_21 rfl ⟨by omega, by omega⟩ ⟨by omega, by omega⟩ (fun q21 => absurd q21 (by omega)) (fun q21 => ?_)
    refine ax_iload f15_24 rfl ?_
    refine ax_if_eq f15_26 rfl ⟨by omega, by omega⟩ (fun q26 => absurd q26 (by omega)) (fun q26 => ?_)
    refine ax_aload f15_29 rfl ?_
    refine ax_iconst f15_31 ?_
    refine ax_ialdO f15_32 (by decide) nN (by omega) (by omega) rfl ?_
    rw [show nn R 2 = R 269 from rfl]
    refine ax_if_eq f15_33 rfl ⟨by omega, by omega⟩ (fun q33 => ?_) (fun q33 => ?_)
    · exact K44

    · refine ax_aload f15_36 rfl ?_
      refine ax_iconst f15_38 ?_
      refine ax_ialdO f15_39 (by decide) nN (by omega) (by omega) rfl ?_
      rw [show nn R 0 = R 192 from rfl]
      refine ax_iconst f15_40 ?_
      refine ax_icmp_ne f15_41 rfl ⟨by omega, by omega⟩ ⟨by omega, by omega⟩ (fun q41 => absurd q41 (by omega)) (fun q41 => ?_)
      exact K44
theorem c_15 {h : am_H} (hl : 127 ≤ h.1.length) {R : Int → Int} (cl : Lcl h R) (w : oI h 120 48 R) (a : oI h 121 48 (fun j => R (48 + j))) (l : oI h 122 48 (fun j => R (96 + j))) (f : oI h 123 48 (fun j => R (144 + j))) (b : oI h 124 24 (fun j => R (193 + j))) (nN : oI h 126 6 (nn R))  : am_X 55 15 0 (am_ent 15 [.ref 0, .ref 120, .ref 121, .ref 122, .ref 123, .ref 124, .ref 126]) [] h (fun r h' => rI r 1 ∧ ∃ nc ms, nc ≤ 16 ∧ ms ≤ 816 ∧ Lcl h' R ∧ gx (fun q => q < 120) h h' nc ms) := by
  show am_X 55 15 0 [.ref 0, .ref 120, .ref 121, .ref 122, .ref 123, .ref 124, .ref 126, am_u, am_u, am_u, am_u, am_u, am_u, am_u, am_u, am_u, am_u] [] h _
  obtain ⟨p, hl0⟩ : ∃ p, h.1.length = p := ⟨_, rfl⟩
  have hp : 127 ≤ p := by omega
  refine ax_bipush f15_0 ?_
  refine ax_nwaO (A := (48, .inl fun _ => 0)) (N := 48) (p := p) f15_2 (by omega) (by omega) rfl rfl hl0 (fun ha1 o1 g1 => ?_)
  have hl1 : ha1.1.length = p + 1 := by have := g1.2.1; omega
  have bF : oI ha1 p 48 (fun _ => 0) := oA_0 o1
  have cl := cl.gw g1 (by omega)
  have w := w.gw g1 (by omega)
  have a := a.gw g1 (by omega)
  have l := l.gw g1 (by omega)
  have f := f.gw g1 (by omega)
  have b := b.gw g1 (by omega)
  have nN := nN.gw g1 (by omega)
  refine ax_astore (ls' := [_, _, _, _, _, _, _, _, _, _, _, _, _, _, _, _, _]) f15_4 (Nat.le_of_ble_eq_true rfl) rfl ?_
  refine ax_iconst f15_6 ?_
  refine ax_istore (ls' := [_, _, _, _, _, _, _, _, _, _, _, _, _, _, _, _, _]) f15_7 (Nat.le_of_ble_eq_true rfl) rfl ?_
  refine ax_iconst f15_9 ?_
  refine ax_istore (ls' := [_, _, _, _, _, _, _, _, _, _, _, _, _, _, _, _, _]) f15_10 (Nat.le_of_ble_eq_true rfl) rfl ?_
  refine ax_iconst f15_12 ?_
  refine ax_istore (ls' := [_, _, _, _, _, _, _, _, _, _, _, _, _, _, _, _, _]) f15_13 (Nat.le_of_ble_eq_true rfl) rfl ?_
  refine ax_iconst f15_15 ?_
  refine ax_istore (ls' := [_, _, _, _, _, _, _, _, _, _, _, _, _, _, _, _, _]) f15_16 (Nat.le_of_ble_eq_true rfl) rfl ?_
  have i := cl.i
  have td := i.td
  have tr := i.tr
  by_cases can : R 192 = 1 ∨ R 269 = 0
  · have eb : bwy R = bwl R 2 1 0 := if_pos can
    have hbw : -1 ≤ bwl R 2 1 0 ∧ bwl R 2 1 0 ≤ 3 := by
      show -1 ≤ (if _ then (2 : Int) else (if _ then (1 : Int) else 0)) ∧ (if _ then (2 : Int) else (if _ then (1 : Int) else 0)) ≤ 3
      (repeat' split) <;> omega
    refine lp_15 (d := 0) (p := p) hp 3 0 (-1) 0 cl w a l f b nN bF (by omega) (by omega) (by omega) can (Or.inl ⟨rfl, rfl, rfl, rfl, rfl⟩) (fun h1 x9 x12 x13 x14 x15 x16 c1 c2 => ?_)
    have cl := c1
    have F : fr (fun q => q < 120) h1 h1 := fr_rf
    refine ax_iload f15_229 rfl ?_
    refine ax_if_eq f15_231 rfl ⟨by omega, by omega⟩ (fun q231 => absurd q231 (by omega)) (fun q231 => ?_)
    refine ax_aload_n f15_234 rfl ?_
    refine ax_cvI (rest := []) f15_235 cl.o rfl rfl rfl rfl rfl rfl rfl rfl (u_124 cl) ?_
    rintro hh1 ⟨cl1, f1⟩
    have cl := cl1
    have F := F.trans (f1.mono fun x e => by omega)
    rw [eb]
    refine ax_iload f15_238 rfl ?_
    refine ax_icmp_ne f15_240 rfl ⟨by omega, by omega⟩ ⟨by omega, by omega⟩ (fun q240 => absurd q240 (by omega)) (fun q240 => ?_)
    refine ax_iconst f15_243 ?_
    refine ax_goto f15_244 rfl ?_
    refine ax_ireturn f15_248 rfl rfl ?_
    exact ⟨rfl, 16, 816, Nat.le_refl _, Nat.le_refl _, cl, (gx_wg g1 hl0 (c2.tr (gx_fr (F.mono fun q e => Or.inl e))) (fun q q1 q2 => by omega)).cg rfl rfl⟩
  · have eb : bwy R = -1 := if_neg can
    have F : fr (fun q => q < 120) ha1 ha1 := fr_rf
    refine ax_iload f15_18 rfl ?_
    refine ax_iconst f15_20 ?_
    refine ax_icmp_ge f15_21 rfl ⟨by omega, by omega⟩ ⟨by omega, by omega⟩ (fun q21 => absurd q21 (by omega)) (fun q21 => ?_)
    refine ax_iload f15_24 rfl ?_
    refine ax_if_eq f15_26 rfl ⟨by omega, by omega⟩ (fun q26 => absurd q26 (by omega)) (fun q26 => ?_)
    refine ax_aload f15_29 rfl ?_
    refine ax_iconst f15_31 ?_
    refine ax_ialdO f15_32 (by decide) nN (by omega) (by omega) rfl ?_
    rw [show nn R 2 = R 269 from rfl]
    refine ax_if_eq f15_33 rfl ⟨by omega, by omega⟩ (fun q33 => absurd q33 (by omega)) (fun q33 => ?_)
    refine ax_aload f15_36 rfl ?_
    refine ax_iconst f15_38 ?_
    refine ax_ialdO f15_39 (by decide) nN (by omega) (by omega) rfl ?_
    rw [show nn R 0 = R 192 from rfl]
    refine ax_iconst f15_40 ?_
    refine ax_icmp_ne f15_41 rfl ⟨by omega, by omega⟩ ⟨by omega, by omega⟩ (fun q41 => ?_) (fun q41 => absurd q41 (by omega))
    refine ax_iload f15_229 rfl ?_
    refine ax_if_eq f15_231 rfl ⟨by omega, by omega⟩ (fun q231 => absurd q231 (by omega)) (fun q231 => ?_)
    refine ax_aload_n f15_234 rfl ?_
    refine ax_cvI (rest := []) f15_235 cl.o rfl rfl rfl rfl rfl rfl rfl rfl (u_124 cl) ?_
    rintro hh1 ⟨cl1, f1⟩
    have cl := cl1
    have F := F.trans (f1.mono fun x e => by omega)
    rw [eb]
    refine ax_iload f15_238 rfl ?_
    refine ax_icmp_ne f15_240 rfl ⟨by omega, by omega⟩ ⟨by omega, by omega⟩ (fun q240 => absurd q240 (by omega)) (fun q240 => ?_)
    refine ax_iconst f15_243 ?_
    refine ax_goto f15_244 rfl ?_
    refine ax_ireturn f15_248 rfl rfl ?_
    exact ⟨rfl, 1, 48, by decide, by decide, cl, (gx_wg g1 hl0 (gx_fr F) (fun q q1 q2 => q2)).cg rfl rfl⟩
end WLD
