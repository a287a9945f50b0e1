/-! ===== actions: spread, tell, seek ===== -/
section ACU
theorem lp_22 {d : Nat} {Q : am_R → am_H → Prop} {R : Int → Int} (i : ibt R 0 48 1 99) {n0 g : Int} (hg : 0 ≤ g ∧ g ≤ 5000) : ∀ (n : Nat) (r : Int) (u : Int → Int) {h : am_H} (w : oI h 120 48 R) (f : oI h 123 48 u) (h1 : r + n = 48) (h2 : 0 ≤ r) (hu : ∀ j, 0 ≤ j → j < r → u j = gf R g j) (kk : ∀ h' x7, oI h' 123 48 (gf R g) → fr (fun q => q = 123) h h' → am_X d 22 74 [.ref 0, .ref 120, .ref 123, .ref 124, .ref 126, .int (iI n0), .int (iI g), x7, .int (iI 48)] [] h' Q), am_X d 22 15 [.ref 0, .ref 120, .ref 123, .ref 124, .ref 126, .int (iI n0), .int (iI g), .int (iI (nel R g r)), .int (iI r)] [] h Q
  | 0, r, u, h, w, f, h1, h2, hu, kk => by
    have h1 : r = 48 := by omega
    subst h1
    refine ax_iload f22_15 rfl ?_
    refine ax_bipush f22_17 ?_
    refine ax_icmp_ge f22_19 rfl ⟨by omega, by omega⟩ ⟨by omega, by omega⟩ (fun q19 => ?_) (fun q19 => absurd q19 (by omega))
    exact kk h _ (f.eq (fun j j1 j2 => (hu j j1 (by omega)).symm)) fr_rf
  | n + 1, r, u, h, w, f, h1, h2, hu, kk => by
    have iw := i r h2 (by omega)
    rw [Int.zero_add] at iw
    have n1 := nel_in i (g := g) h2 (by omega)
    by_cases c0 : nel R g r < R r
    · refine ax_iload f22_15 rfl ?_
      refine ax_bipush f22_17 ?_
      refine ax_icmp_ge f22_19 rfl ⟨by omega, by omega⟩ ⟨by omega, by omega⟩ (fun q19 => absurd q19 (by omega)) (fun q19 => ?_)
      refine ax_aload_n f22_22 rfl ?_
      refine ax_iload f22_23 rfl ?_
      refine ax_aload_n f22_25 rfl ?_
      refine ax_iload f22_26 rfl ?_
      refine ax_ialdO f22_28 (by decide) w (by omega) (by omega) rfl ?_
      refine ax_iload f22_29 rfl ?_
      refine ax_icmp_le f22_31 rfl ⟨by omega, by omega⟩ ⟨by omega, by omega⟩ (fun q31 => absurd q31 (by omega)) (fun q31 => ?_)
      refine ax_iconst f22_34 ?_
      refine ax_goto f22_35 rfl ?_
      refine ax_iastO f22_39 f (by omega) (by omega) rfl (fun hp1 o1 r1 => ?_)
      have w := w.fr r1 (by omega)
      have f := o1
      refine ax_aload_n f22_40 rfl ?_
      refine ax_iload f22_41 rfl ?_
      refine ax_ialdO f22_43 (by decide) w (by omega) (by omega) rfl ?_
      refine ax_iload f22_44 rfl ?_
      refine ax_icmp_le f22_46 rfl ⟨by omega, by omega⟩ ⟨by omega, by omega⟩ (fun q46 => absurd q46 (by omega)) (fun q46 => ?_)
      refine ax_iload f22_49 rfl ?_
      refine ax_aload_n f22_51 rfl ?_
      refine ax_iload f22_52 rfl ?_
      refine ax_ialdO f22_54 (by decide) w (by omega) (by omega) rfl ?_
      refine ax_isub f22_55 ?_
      refine ax_goto f22_56 rfl ?_
      refine ax_istore (ls' := [_, _, _, _, _, _, _, _, _]) f22_66 (Nat.le_of_ble_eq_true rfl) rfl ?_
      refine ax_iinc (ls' := [_, _, _, _, _, _, _, _, _]) f22_68 rfl (Nat.le_of_ble_eq_true rfl) rfl ?_
      refine ax_goto f22_71 rfl ?_
      have el : nel R g (r + 1) = g - R r := by rw [nel_s h2, if_pos (by omega)]
      rw [← el]
      refine lp_22 i hg n (r + 1) _ w f (by omega) (by omega) (fun j j1 j2 => ?_) (fun h' z7 c1 c2 => kk h' z7 c1 (r1.trans c2))
      by_cases c : j = r
      · rw [c, uZ_s, gf_nel, if_pos (by omega)]
      · rw [uZ_n c]; exact hu j j1 (by omega)
    · refine ax_iload f22_15 rfl ?_
      refine ax_bipush f22_17 ?_
      refine ax_icmp_ge f22_19 rfl ⟨by omega, by omega⟩ ⟨by omega, by omega⟩ (fun q19 => absurd q19 (by omega)) (fun q19 => ?_)
      refine ax_aload_n f22_22 rfl ?_
      refine ax_iload f22_23 rfl ?_
      refine ax_aload_n f22_25 rfl ?_
      refine ax_iload f22_26 rfl ?_
      refine ax_ialdO f22_28 (by decide) w (by omega) (by omega) rfl ?_
      refine ax_iload f22_29 rfl ?_
      refine ax_icmp_le f22_31 rfl ⟨by omega, by omega⟩ ⟨by omega, by omega⟩ (fun q31 => ?_) (fun q31 => absurd q31 (by omega))
      refine ax_iconst f22_38 ?_
      refine ax_iastO f22_39 f (by omega) (by omega) rfl (fun hp1 o1 r1 => ?_)
      have w := w.fr r1 (by omega)
      have f := o1
      refine ax_aload_n f22_40 rfl ?_
      refine ax_iload f22_41 rfl ?_
      refine ax_ialdO f22_43 (by decide) w (by omega) (by omega) rfl ?_
      refine ax_iload f22_44 rfl ?_
      refine ax_icmp_le f22_46 rfl ⟨by omega, by omega⟩ ⟨by omega, by omega⟩ (fun q46 => ?_) (fun q46 => absurd q46 (by omega))
      refine ax_iload f22_59 rfl ?_
      refine ax_aload_n f22_61 rfl ?_
      refine ax_iload f22_62 rfl ?_
      refine ax_ialdO f22_64 (by decide) w (by omega) (by omega) rfl ?_
      refine ax_isub f22_65 ?_
      refine ax_istore (ls' := [_, _, _, _, _, _, _, _, _]) f22_66 (Nat.le_of_ble_eq_true rfl) rfl ?_
      refine ax_iinc (ls' := [_, _, _, _, _, _, _, _, _]) f22_68 rfl (Nat.le_of_ble_eq_true rfl) rfl ?_
      refine ax_goto f22_71 rfl ?_
      have el : nel R g (r + 1) = nel R g r - R r := by rw [nel_s h2, if_neg (by omega)]
      rw [← el]
      refine lp_22 i hg n (r + 1) _ w f (by omega) (by omega) (fun j j1 j2 => ?_) (fun h' z7 c1 c2 => kk h' z7 c1 (r1.trans c2))
      by_cases c : j = r
      · rw [c, uZ_s, gf_nel, if_neg (by omega)]
      · rw [uZ_n c]; exact hu j j1 (by omega)
theorem spr_lo {R : Int → Int} {n j : Int} (h : j < 144 ∨ 217 ≤ j) : spr R n j = R j := by
  unfold spr rfe frg
  rw [if_neg (by omega), if_neg (by omega)]
theorem spr_f {R : Int → Int} {n j : Int} (h2 : 0 ≤ j) (h3 : j < 48) : spr R n (144 + j) = gf R (bal R n) j := rfe_f h2 h3
theorem spr_0 {R : Int → Int} {n j : Int} (h : 192 ≤ j ∧ j < 217) : spr R n j = 0 := rfe_0 h.1 h.2
theorem c_22 {h : am_H} {R : Int → Int} (L0 : Lst h R) {n0 : Int} (h0 : 1 ≤ n0 ∧ n0 ≤ 11) : am_X 5 22 0 (am_ent 22 [.ref 0, .ref 120, .ref 123, .ref 124, .ref 126, .int (iI n0)]) [] h (fun r h' => rI r 1 ∧ ∃ (R' : Int → Int) (nc ms : Nat), nc ≤ 5 ∧ ms ≤ 256 ∧ Lst h' R' ∧ gx (fun q => q < 127) h h' nc ms) := by
  show am_X 5 22 0 [.ref 0, .ref 120, .ref 123, .ref 124, .ref 126, .int (iI n0), am_u, am_u, am_u] [] h _
  obtain ⟨cl, w, a, l, f, b, t, nN⟩ := L0
  have i := cl.i
  have b12 := i.b12
  have b1 := blk_1 i.ff
  have F : fr (fun q => q < 127) h h := fr_rf
  have hb := bal_in (R := R) i.1.1 (n := n0) (by omega)
  have hs := bal_sp (R := R) i.1.1 (n := n0) (by omega)
  have hbl : blk (spr R n0) = 1 + sm (gf R (bal R n0)) 0 48 := rfe_blk (gf_f0 i hs.1.1)
  have hle := hs.1.2
  refine ax_aload_n f22_0 rfl ?_
  refine ax_iload f22_1 rfl ?_
  refine ax_cvI (rest := []) f22_3 cl.o rfl rfl rfl rfl rfl rfl rfl rfl (u_127 cl h0) ?_
  rintro hh1 ⟨cl1, f1⟩
  have cl := cl1
  have w := w.fr f1 (by omega)
  have a := a.fr f1 (by omega)
  have l := l.fr f1 (by omega)
  have f := f.fr f1 (by omega)
  have b := b.fr f1 (by omega)
  have t := t.fr f1 (by omega)
  have nN := nN.fr f1 (by omega)
  have F := F.trans (f1.mono fun x e => by omega)
  refine ax_istore (ls' := [_, _, _, _, _, _, _, _, _]) f22_6 (Nat.le_of_ble_eq_true rfl) rfl ?_
  refine ax_iload f22_8 rfl ?_
  refine ax_istore (ls' := [_, _, _, _, _, _, _, _, _]) f22_10 (Nat.le_of_ble_eq_true rfl) rfl ?_
  refine ax_iconst f22_12 ?_
  refine ax_istore (ls' := [_, _, _, _, _, _, _, _, _]) f22_13 (Nat.le_of_ble_eq_true rfl) rfl ?_
  have e : nel R (bal R n0) 0 = bal R n0 := Int.sub_zero _
  have key := lp_22 (d := 5) (Q := fun r h' => rI r 1 ∧ ∃ (R' : Int → Int) (nc ms : Nat), nc ≤ 5 ∧ ms ≤ 256 ∧ Lst h' R' ∧ gx (fun q => q < 127) h h' nc ms) i.1.1 (n0 := n0) (g := bal R n0) (by omega) 48 0 _ w f (by omega) (by omega) (fun j j1 j2 => by omega) (fun h3 x7 c1 c2 => ?_)
  · rw [e] at key
    exact key
  · have cl := cl.fr c2 (fun q hq => by omega)
    have w := w.fr c2 (by omega)
    have a := a.fr c2 (by omega)
    have l := l.fr c2 (by omega)
    have f := c1
    have b := b.fr c2 (by omega)
    have t := t.fr c2 (by omega)
    have nN := nN.fr c2 (by omega)
    have F := F.trans (c2.mono fun x e => by omega)
    refine ax_aload_n f22_74 rfl ?_
    refine ax_aload f22_75 rfl ?_
    refine ax_csV (rest := []) f22_77 (Or.inl rfl) rfl rfl rfl rfl rfl rfl (c_20 b nN) ?_
    rintro hh8 ⟨b9, n9, f9⟩
    have cl := cl.fr f9 (fun q hq => by omega)
    have w := w.fr f9 (by omega)
    have a := a.fr f9 (by omega)
    have l := l.fr f9 (by omega)
    have f := f.fr f9 (by omega)
    have b := b9
    have t := t.fr f9 (by omega)
    have nN := n9
    have F := F.trans (f9.mono fun x e => by omega)
    have f := f.eq (g' := fun j => spr R n0 (144 + j)) (fun j j1 j2 => spr_f j1 j2)
    refine ax_aload_n f22_80 rfl ?_
    refine ax_iload f22_81 rfl ?_
    refine ax_cvI (rest := []) f22_83 cl.o rfl rfl rfl rfl rfl rfl rfl rfl (u_117 cl h0) ?_
    rintro hh2 ⟨cl2, f2⟩
    have cl := cl2
    have w := w.fr f2 (by omega)
    have a := a.fr f2 (by omega)
    have l := l.fr f2 (by omega)
    have f := f.fr f2 (by omega)
    have b := b.fr f2 (by omega)
    have t := t.fr f2 (by omega)
    have nN := nN.fr f2 (by omega)
    have F := F.trans (f2.mono fun x e => by omega)
    have iN := cl.i
    have n12 := iN.b12
    have n1 := blk_1 iN.ff
    refine ax_aload_n f22_86 rfl ?_
    refine ax_csI (rest := [_]) f22_87 (Or.inl rfl) rfl rfl rfl rfl rfl rfl (c_3 (R := spr R n0) f) ?_
    intro _ e_
    obtain rfl := e_.symm
    clear e_
    refine ax_icmp_ne f22_90 rfl ⟨by omega, by omega⟩ ⟨by omega, by omega⟩ (fun q90 => absurd q90 (by omega)) (fun q90 => ?_)
    refine ax_aload_n f22_93 rfl ?_
    refine ax_csI (rest := []) f22_94 (Or.inl rfl) rfl rfl rfl rfl rfl rfl (c_3 (R := spr R n0) f) ?_
    intro _ e_
    obtain rfl := e_.symm
    clear e_
    refine ax_iload f22_97 rfl ?_
    refine ax_iconst f22_99 ?_
    refine ax_iadd f22_100 ?_
    refine ax_icmp_gt f22_101 rfl ⟨by omega, by omega⟩ ⟨by omega, by omega⟩ (fun q101 => absurd q101 (by omega)) (fun q101 => ?_)
    refine ax_iconst f22_104 ?_
    refine ax_goto f22_105 rfl ?_
    refine ax_ireturn f22_109 rfl rfl ?_
    exact ⟨rfl, spr R n0, 0, 0, by decide, by decide, Lst_mk cl w a l f b t nN (fun j j1 j2 => spr_lo (by omega)) (fun j j1 j2 => spr_lo (by omega)) (fun j j1 j2 => spr_lo (by omega)) (fun j j1 j2 => rfl) (fun j j1 j2 => spr_0 (by omega)) (fun j j1 j2 => spr_lo (by omega)) (fun j j1 j2 => congrArg iI (nn_0 (fun j hj => spr_lo (by omega)) (spr_0 (by omega)) j)), gx_fr F⟩
theorem tls_b {R : Int → Int} {k j : Int} (h : 0 ≤ j) : tls R k (193 + j) = if j < k then fld R (fro R j) (fro R (j + 1)) + R (205 + j) else R (193 + j) := by
  unfold tls
  rw [if_neg (show ¬ 193 + j = 192 by omega)]
  by_cases c : j < k
  · rw [if_pos (show 193 ≤ 193 + j ∧ 193 + j < 193 + k by omega), if_pos c, show 193 + j - 193 = j by omega]
  · rw [if_neg (show ¬ (193 ≤ 193 + j ∧ 193 + j < 193 + k) by omega), if_neg c]
theorem tel_192 {R : Int → Int} : tel R 192 = 1 := by
  unfold tel tls
  rw [if_pos rfl]
theorem lp_142 {d : Nat} {Q : am_R → am_H → Prop} {R : Int → Int} (i : inv R) : ∀ (n : Nat) (k : Int) {h : am_H} {x8 x9 : Value} (w : oI h 120 48 R) (a : oI h 121 48 (fun j => R (48 + j))) (f : oI h 123 48 (fun j => R (144 + j))) (b : oI h 124 24 (fun j => tls R k (193 + j))) (h1 : k + n = blk R) (h2 : 0 ≤ k) (kk : ∀ h' x8 x9, oI h' 124 24 (fun j => tel R (193 + j)) → fr (fun q => q = 124) h h' → am_X (d + 1) 142 81 [.ref 0, .ref 120, .ref 121, .ref 123, .ref 124, .ref 126, .int (iI (sm (fun j => tel R (193 + j)) 0 (blk R).toNat)), .int (iI (blk R)), x8, x9] [] h' Q), am_X (d + 1) 142 6 [.ref 0, .ref 120, .ref 121, .ref 123, .ref 124, .ref 126, .int (iI (sm (fun j => tel R (193 + j)) 0 k.toNat)), .int (iI k), x8, x9] [] h Q
  | 0, k, h, x8, x9, w, a, f, b, h1, h2, kk => by
    have h1 : k = blk R := by omega
    subst h1
    have b12 := i.b12
    refine ax_iload f142_6 rfl ?_
    refine ax_aload_n f142_8 rfl ?_
    refine ax_csI (rest := [_]) f142_9 (Or.inl rfl) rfl rfl rfl rfl rfl rfl (c_3 f) ?_
    intro _ e_
    obtain rfl := e_.symm
    clear e_
    refine ax_icmp_ge f142_12 rfl ⟨by omega, by omega⟩ ⟨by omega, by omega⟩ (fun q12 => ?_) (fun q12 => absurd q12 (by omega))
    exact kk h _ _ b fr_rf
  | n + 1, k, h, x8, x9, w, a, f, b, h1, h2, kk => by
    have h3 : k < blk R := by omega
    have b12 := i.b12
    obtain ⟨b1, b2, b3⟩ := fro_lt i.ff h2 h3
    have b4 := (fro_sp i.ff k).1
    have b5 := (fro_sp i.ff (k + 1)).2.1
    have ge := gon_e (R := R) i.1.2.1 b4 (Int.le_of_lt b3) b5
    obtain ⟨v, ev⟩ : ∃ v, v = fld R (fro R k) (fro R (k + 1)) + R (205 + k) := ⟨_, rfl⟩
    have et : tls R (k + 1) (193 + k) = v := by
      rw [ev]
      unfold tls
      rw [if_neg (by omega), if_pos (by omega), show 193 + k - 193 = k by omega]
    have et2 : tel R (193 + k) = v := by
      rw [ev]
      unfold tel tls
      rw [if_neg (by omega), if_pos (by omega), show 193 + k - 193 = k by omega]
    have e1 : sm (fun j => tel R (193 + j)) 0 k.toNat + v = sm (fun j => tel R (193 + j)) 0 (k + 1).toNat := by
      rw [show (k + 1).toNat = k.toNat + 1 by omega, sm_snoc, show (0 : Int) + (k.toNat : Int) = k by omega, et2]
    refine ax_iload f142_6 rfl ?_
    refine ax_aload_n f142_8 rfl ?_
    refine ax_csI (rest := [_]) f142_9 (Or.inl rfl) rfl rfl rfl rfl rfl rfl (c_3 f) ?_
    intro _ e_
    obtain rfl := e_.symm
    clear e_
    refine ax_icmp_ge f142_12 rfl ⟨by omega, by omega⟩ ⟨by omega, by omega⟩ (fun q12 => absurd q12 (by omega)) (fun q12 => ?_)
    refine ax_aload_n f142_15 rfl ?_
    refine ax_iload f142_16 rfl ?_
    refine ax_csI (rest := []) f142_18 (Or.inl rfl) rfl rfl rfl rfl rfl rfl (c_4 f i.ff ⟨by omega, by omega⟩) ?_
    intro _ e_
    obtain rfl := e_.symm
    clear e_
    refine ax_istore (ls' := [_, _, _, _, _, _, _, _, _, _]) f142_21 (Nat.le_of_ble_eq_true rfl) rfl ?_
    refine ax_aload_n f142_23 rfl ?_
    refine ax_iload f142_24 rfl ?_
    refine ax_iconst f142_26 ?_
    refine ax_iadd f142_27 ?_
    refine ax_csI (rest := []) f142_28 (Or.inl rfl) rfl rfl rfl rfl rfl rfl (c_4 f i.ff ⟨by omega, by omega⟩) ?_
    intro _ e_
    obtain rfl := e_.symm
    clear e_
    refine ax_istore (ls' := [_, _, _, _, _, _, _, _, _, _]) f142_31 (Nat.le_of_ble_eq_true rfl) rfl ?_
    refine ax_aload f142_33 rfl ?_
    refine ax_iload f142_35 rfl ?_
    refine ax_aload_n f142_37 rfl ?_
    refine ax_iload f142_38 rfl ?_
    refine ax_iload f142_40 rfl ?_
    refine ax_csI (rest := [_, _]) f142_42 (Or.inl rfl) rfl rfl rfl rfl rfl rfl (c_5 w b4 (Int.le_of_lt b3) b5) ?_
    intro _ e_
    obtain rfl := e_.symm
    clear e_
    refine ax_aload_n f142_45 rfl ?_
    refine ax_aload_n f142_46 rfl ?_
    refine ax_iload f142_47 rfl ?_
    refine ax_iload f142_49 rfl ?_
    refine ax_csI (rest := [_, _, _]) f142_51 (Or.inl rfl) rfl rfl rfl rfl rfl rfl (c_6 w a b4 (by omega) (by omega) b5) ?_
    intro _ e_
    obtain rfl := e_.symm
    clear e_
    refine ax_isub f142_54 ?_
    rw [show bok R (fro R k) (fro R (k + 1)) - gon R (fro R k) (fro R (k + 1)) = fld R (fro R k) (fro R (k + 1)) by omega]
    refine ax_aload f142_55 rfl ?_
    refine ax_bipush f142_57 ?_
    refine ax_iload f142_59 rfl ?_
    refine ax_iadd f142_61 ?_
    refine ax_ialdO f142_62 (by decide) b (by omega) (by omega) rfl ?_
    rw [show tls R k (193 + (12 + k)) = R (205 + k) by unfold tls; rw [if_neg (by omega), if_neg (by omega), show 193 + (12 + k) = 205 + k by omega]]
    refine ax_iadd f142_63 ?_
    rw [← ev]
    refine ax_iastO f142_64 b (by omega) (by omega) rfl (fun hp1 o1 r1 => ?_)
    have w := w.fr r1 (by omega)
    have a := a.fr r1 (by omega)
    have f := f.fr r1 (by omega)
    have b := o1
    refine ax_iload f142_65 rfl ?_
    refine ax_aload f142_67 rfl ?_
    refine ax_iload f142_69 rfl ?_
    refine ax_ialdO f142_71 (by decide) b (by omega) (by omega) rfl ?_
    rw [uZ_s]
    refine ax_iadd f142_72 ?_
    rw [e1]
    refine ax_istore (ls' := [_, _, _, _, _, _, _, _, _, _]) f142_73 (Nat.le_of_ble_eq_true rfl) rfl ?_
    refine ax_iinc (ls' := [_, _, _, _, _, _, _, _, _, _]) f142_75 rfl (Nat.le_of_ble_eq_true rfl) rfl ?_
    refine ax_goto f142_78 rfl ?_
    have b := b.eq (g' := fun j => tls R (k + 1) (193 + j)) (fun j j1 j2 => by
      by_cases c : j = k
      · rw [c, uZ_s]; exact et
      · rw [uZ_n c]
        show tls R (k + 1) (193 + j) = tls R k (193 + j)
        rw [tls_b j1, tls_b j1]
        by_cases c2 : j < k
        · rw [if_pos c2, if_pos (by omega)]
        · rw [if_neg c2, if_neg (by omega)])
    exact lp_142 i n (k + 1) w a f b (by omega) (by omega) (fun h' z8 z9 c1 c2 => kk h' z8 z9 c1 (r1.trans c2))
theorem tel_lo {R : Int → Int} (i : inv R) {j : Int} (h : j < 192 ∨ 205 ≤ j) : tel R j = R j := by
  have b12 := i.b12
  unfold tel tls
  rw [if_neg (by omega), if_neg (by omega)]
theorem tel_sum {R : Int → Int} (i : inv R) : sm (fun j => tel R (193 + j)) 0 12 = sm (fun j => tel R (193 + j)) 0 (blk R).toNat := by
  have b12 := i.b12
  have b1 := blk_1 i.ff
  rw [show (12 : Nat) = (blk R).toNat + (12 - (blk R).toNat) by omega, sm_cat]
  have e : sm (fun j => tel R (193 + j)) (0 + ((blk R).toNat : Nat)) (12 - (blk R).toNat) = 0 := by
    have l := sm_le (f := fun j => tel R (193 + j)) (c := 0) (n := 12 - (blk R).toNat) (a := 0 + ((blk R).toNat : Nat)) (fun j j1 j2 => by
      show tel R (193 + j) ≤ 0
      unfold tel tls
      rw [if_neg (by omega), if_neg (by omega), i.s0 (k := j) (by omega) (by omega)]
      exact Int.le_refl 0)
    have m := sm_ge (f := fun j => tel R (193 + j)) (c := 0) (n := 12 - (blk R).toNat) (a := 0 + ((blk R).toNat : Nat)) (fun j j1 j2 => by
      show 0 ≤ tel R (193 + j)
      unfold tel tls
      rw [if_neg (by omega), if_neg (by omega), i.s0 (k := j) (by omega) (by omega)]
      exact Int.le_refl 0)
    omega
  rw [e, Int.add_zero]
theorem c_142 {h : am_H} {R : Int → Int} (L0 : Lst h R) : am_X 5 142 0 (am_ent 142 [.ref 0, .ref 120, .ref 121, .ref 123, .ref 124, .ref 126]) [] h (fun r h' => rI r 1 ∧ ∃ (R' : Int → Int) (nc ms : Nat), nc ≤ 5 ∧ ms ≤ 256 ∧ Lst h' R' ∧ gx (fun q => q < 127) h h' nc ms) := by
  show am_X 5 142 0 [.ref 0, .ref 120, .ref 121, .ref 123, .ref 124, .ref 126, am_u, am_u, am_u, am_u] [] h _
  obtain ⟨cl, w, a, l, f, b, t, nN⟩ := L0
  have i := cl.i
  have b12 := i.b12
  have b1 := blk_1 i.ff
  have F : fr (fun q => q < 127) h h := fr_rf
  refine ax_iconst f142_0 ?_
  refine ax_istore (ls' := [_, _, _, _, _, _, _, _, _, _]) f142_1 (Nat.le_of_ble_eq_true rfl) rfl ?_
  refine ax_iconst f142_3 ?_
  refine ax_istore (ls' := [_, _, _, _, _, _, _, _, _, _]) f142_4 (Nat.le_of_ble_eq_true rfl) rfl ?_
  refine lp_142 (d := 4) i (blk R).toNat 0 w a f (b.eq (fun j j1 j2 => ?_)) (by omega) (by omega) (fun h3 x8 x9 c1 c2 => ?_)
  · show tls R 0 (193 + j) = R (193 + j)
    unfold tls
    rw [if_neg (by omega), if_neg (by omega)]
  · have cl := cl.fr c2 (fun q hq => by omega)
    have w := w.fr c2 (by omega)
    have a := a.fr c2 (by omega)
    have l := l.fr c2 (by omega)
    have f := f.fr c2 (by omega)
    have b := c1
    have t := t.fr c2 (by omega)
    have nN := nN.fr c2 (by omega)
    have F := F.trans (c2.mono fun x e => by omega)
    have te := inv_te i
    have l1 := sm_le (f := fun j => tel R (193 + j)) (c := 5000) (n := (blk R).toNat) (a := 0) (fun j j1 j2 => by have := te.su (r := j) (by omega) (by omega); show tel R (193 + j) ≤ 5000; omega)
    have l2 := sm_ge (f := fun j => tel R (193 + j)) (c := -2) (n := (blk R).toNat) (a := 0) (fun j j1 j2 => by have := te.su (r := j) (by omega) (by omega); show -2 ≤ tel R (193 + j); omega)
    refine ax_aload f142_81 rfl ?_
    refine ax_iconst f142_83 ?_
    refine ax_iconst f142_84 ?_
    refine ax_iastO f142_85 nN (by omega) (by omega) rfl (fun hp1 o1 r1 => ?_)
    have cl := cl.fr r1 (fun q hq => by omega)
    have w := w.fr r1 (by omega)
    have a := a.fr r1 (by omega)
    have l := l.fr r1 (by omega)
    have f := f.fr r1 (by omega)
    have b := b.fr r1 (by omega)
    have t := t.fr r1 (by omega)
    have nN := o1
    have F := F.trans (r1.mono fun x e => by omega)
    refine ax_aload_n f142_86 rfl ?_
    refine ax_cvI (rest := []) f142_87 cl.o rfl rfl rfl rfl rfl rfl rfl rfl (u_119 cl) ?_
    rintro hh2 ⟨cl2, f2⟩
    have cl := cl2
    have w := w.fr f2 (by omega)
    have a := a.fr f2 (by omega)
    have l := l.fr f2 (by omega)
    have f := f.fr f2 (by omega)
    have b := b.fr f2 (by omega)
    have t := t.fr f2 (by omega)
    have nN := nN.fr f2 (by omega)
    have F := F.trans (f2.mono fun x e => by omega)
    rw [tel_sum i]
    refine ax_iload f142_90 rfl ?_
    refine ax_icmp_ne f142_92 rfl ⟨by omega, by omega⟩ ⟨by omega, by omega⟩ (fun q92 => absurd q92 (by omega)) (fun q92 => ?_)
    refine ax_iconst f142_95 ?_
    refine ax_goto f142_96 rfl ?_
    refine ax_ireturn f142_100 rfl rfl ?_
    exact ⟨rfl, tel R, 0, 0, by decide, by decide, Lst_mk cl w a l f b t nN (fun j j1 j2 => tel_lo i (by omega)) (fun j j1 j2 => tel_lo i (by omega)) (fun j j1 j2 => tel_lo i (by omega)) (fun j j1 j2 => tel_lo i (by omega)) (fun j j1 j2 => rfl) (fun j j1 j2 => tel_lo i (by omega)) (fun j j1 j2 => congrArg iI (nn_0 (R := R) (R' := tel R) (fun j hj => tel_lo i (by omega)) tel_192 j)), gx_fr F⟩
end ACU
