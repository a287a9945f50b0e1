/-! ===== the class: texts are loaded ===== -/
section LOD
/-- the meadow and the text changed -/
theorem Cls_ht {h h' : am_H} {R R' : Int → Int} {S : Int → Int → Int} {c : Int} {G : Nat → Int → Int} {b : Int → Int} {T T' : Int → Int} {L L' : Int} (a : Cls h (R, S, c, G, b, T, L)) (F : fr (fun q => HS 1 q ∨ q = 118) h h') (a2 : Herd h' 1 R') (hT : ∃ pos le fi se, Tx h' 118 T' L' pos le fi se) : Cls h' (R', S, c, G, b, T', L') ∧ fr FC h h' := by
  obtain ⟨o, hH, ⟨R2, hH2⟩, hF, hS, hP, hU, hHi, hSl, _⟩ := a
  exact ⟨⟨F.at (by unfold HS; omega) o, a2, ⟨R2, hH2.mv F (fun x x1 x2 => by unfold HS; omega)⟩, hF.fr F (fun x x1 x2 => by unfold HS; omega), hS.fr F (fun x x1 x2 => by unfold HS; omega), hP.mv F (fun x x1 x2 => by unfold HS; omega), hU.mv F (by unfold HS; omega) (by unfold HS; omega), hHi.mv F (fun q hq => by unfold HiS at hq; unfold HS; omega), hSl.mv F (fun q hq => by unfold SlS at hq; unfold HS; omega), hT⟩, F.mono (fun q e => by unfold HS at e; unfold FC; omega)⟩
theorem cmd_cong {R : Int → Int} {c f f' s s' : Int} (h1 : ¬ c = 110 → f = f') (h2 : c = 119 ∨ c = 108 → s = s') : cmd R c f s = cmd R c f' s' := by
  unfold cmd
  by_cases a1 : c = 97
  · rw [if_pos a1, if_pos a1, h1 (by omega)]
  rw [if_neg a1, if_neg a1]
  by_cases a2 : c = 99
  · rw [if_pos a2, if_pos a2, h1 (by omega)]
  rw [if_neg a2, if_neg a2]
  by_cases a3 : c = 119
  · rw [if_pos a3, if_pos a3, h1 (by omega), h2 (by omega)]
  rw [if_neg a3, if_neg a3]
  by_cases a4 : c = 102
  · rw [if_pos a4, if_pos a4, h1 (by omega)]
  rw [if_neg a4, if_neg a4]
  by_cases a5 : c = 108
  · rw [if_pos a5, if_pos a5, h1 (by omega), h2 (by omega)]
  rw [if_neg a5, if_neg a5]
  by_cases a6 : c = 115
  · rw [if_pos a6, if_pos a6, h1 (by omega)]
  rw [if_neg a6, if_neg a6]
  by_cases a7 : c = 110
  · rw [if_pos a7, if_pos a7]
  rw [if_neg a7, if_neg a7, h1 a7]
/-- a number that is read is small -/
theorem fiN_in {T : Int → Int} {L p : Int} : -1 ≤ fiN T L p ∧ fiN T L p ≤ 99 := (rdF_sp (T := T) (L := L) (c := sg T L p) (p := p + 1)).2.2
theorem seN_in {T : Int → Int} {L p : Int} : -1 ≤ seN T L p ∧ seN T L p ≤ 99 := (rdS_sp (T := T) (L := L) (c := sg T L p) (p := (rdF T L (sg T L p) (p + 1)).2)).2.2
theorem rdc_L {T : Int → Int} {L p : Int} (h : (rdc T L p).1 = 1) : p < L := by
  have a := (rdc_sp (T := T) (L := L) (p := p)).2.2.2 h
  by_cases c : p < L
  · exact c
  · have e : sg T L p = -1 := by unfold sg; rw [if_neg (by omega)]
    rw [e] at a
    omega
theorem lp_110 {d : Nat} {T : Int → Int} {L : Int} : ∀ (n : Nat) (k p lo : Int) (R1 : Int → Int) {le fi se : Int} {h : am_H} (o : h.1[0]? = some (.inr (9, Cfs))) (H : Herd h 1 R1) (i : inv R1) (hT : Tx h 118 T L p le fi se), k + n = 120 → 0 ≤ k ∧ (1 ≤ p ∧ p ≤ 125) → am_X (d + 56) 110 57 [.ref 0, .int (iI lo), .int (iI k)] [] h (fun r h' => rI r (ldr T L n p lo R1).1 ∧ Herd h' 1 (ldr T L n p lo R1).2 ∧ (∃ pos le fi se, Tx h' 118 T L pos le fi se) ∧ fr (fun q => HS 1 q ∨ q = 118) h h')
  | 0, k, p, lo, R1, le, fi, se, h, o, H, i, hT, h1, h2 => by
    have h1 : k = 120 := by omega
    subst h1
    refine ax_iload_n f110_57 rfl ?_
    refine ax_bipush f110_58 ?_
    refine ax_icmp_ge f110_60 rfl ⟨by omega, by omega⟩ ⟨by omega, by omega⟩ (fun q60 => ?_) (fun q60 => absurd q60 (by omega))
    refine ax_iload_n f110_113 rfl ?_
    refine ax_ireturn f110_114 rfl rfl ?_
    exact ⟨rI_of rfl, H, ⟨_, _, _, _, hT⟩, fr_rf⟩
  | n + 1, k, p, lo, R1, le, fi, se, h, o, H, i, hT, h1, h2 => by
    obtain ⟨hk, p1, p2⟩ := h2
    have p1 : 0 ≤ p := by omega
    have hL120 := hT.2.1
    refine ax_iload_n f110_57 rfl ?_
    refine ax_bipush f110_58 ?_
    refine ax_icmp_ge f110_60 rfl ⟨by omega, by omega⟩ ⟨by omega, by omega⟩ (fun q60 => absurd q60 (by omega)) (fun q60 => ?_)
    refine ax_aload_n f110_63 rfl ?_
    refine ax_getf f110_64 o rfl ?_
    refine ax_cvI (rest := []) f110_67 hT.1 rfl rfl rfl rfl rfl rfl rfl rfl (c_101 hT p1 (by omega)) ?_
    rintro h9 ⟨⟨fi9, se9, T9, g9⟩, f9⟩
    have T9 : Tx h9 118 T L (rdc T L p).2 (sg T L p) fi9 se9 := T9
    have f9 : fr (fun q => q = 118) h h9 := f9
    have o9 := f9.at (q := 0) (by omega) o
    have H9 := H.mv f9 (fun x x1 x2 => by omega)
    have a := rdc_sp (T := T) (L := L) (p := p)
    refine ax_if_eq f110_70 rfl ⟨by omega, by omega⟩ (fun q70 => ?_) (fun q70 => ?_)
    · refine ax_iload_n f110_113 rfl ?_
      refine ax_ireturn f110_114 rfl rfl ?_
      refine ⟨rI_of ?_, ?_, ⟨_, _, _, _, T9⟩, f9.mono fun q e => Or.inr e⟩
      · unfold ldr
        rw [if_neg (by omega)]
      · unfold ldr
        rw [if_neg (by omega)]
        exact H9
    · obtain ⟨hg1, hg2⟩ := g9 (by omega)
      have a3 := a.2.2.2 (by omega)
      have hL := rdc_L (T := T) (L := L) (p := p) (by omega)
      have bF := fiN_in (T := T) (L := L) (p := p)
      have bS := seN_in (T := T) (L := L) (p := p)
      have T9 : Tx h9 118 T L (rdc T L p).2 (sg T L p) (wr fi9) (wr se9) := by unfold Tx at T9 ⊢; rw [iI_wr, iI_wr]; exact T9
      have ef : ∀ x : Int, inI x → wr x = x := fun x hx => iI_toInt hx
      have hc := cmd_cong (R := R1) (c := sg T L p) (f := wr fi9) (f' := fiN T L p) (s := wr se9) (s' := seN T L p) (fun z => by rw [hg1 z]; exact ef _ ⟨by omega, by omega⟩) (fun z => by rw [hg2 z]; exact ef _ ⟨by omega, by omega⟩)
      have hs8 : sg T L p = 108 → -1000 ≤ wr se9 := fun z => by rw [hg2 (Or.inr z), ef _ ⟨by omega, by omega⟩]; omega
      have c01 := cmd_01 (R := R1) (c := sg T L p) (f := fiN T L p) (s := seN T L p)
      refine ax_aload_n f110_73 rfl ?_
      refine ax_getf f110_74 o9 rfl ?_
      refine ax_aload_n f110_77 rfl ?_
      refine ax_getf f110_78 o9 rfl ?_
      refine ax_getf f110_81 T9.1 rfl ?_
      refine ax_aload_n f110_84 rfl ?_
      refine ax_getf f110_85 o9 rfl ?_
      refine ax_getf f110_88 T9.1 rfl ?_
      refine ax_aload_n f110_91 rfl ?_
      refine ax_getf f110_92 o9 rfl ?_
      refine ax_getf f110_95 T9.1 rfl ?_
      refine ax_cvI (rest := []) f110_98 H9.1 rfl rfl rfl rfl rfl rfl rfl rfl (c_28 H9 i (wr_in fi9) ⟨wr_in se9, hs8⟩ a3.2) ?_
      rw [hc]
      rintro h8 ⟨H8, f8⟩
      have f8 : fr (HS 1) h9 h8 := f8
      have o8 := f8.at (q := 0) (by unfold HS; omega) o9
      have T8 := T9.mv f8 (by unfold HS; omega) (by unfold HS; omega)
      have i8 := cmd_inv i (sg T L p) (fiN T L p) (seN T L p)
      refine ax_if_ne f110_101 rfl ⟨by omega, by omega⟩ (fun q101 => ?_) (fun q101 => ?_)
      · refine ax_iinc (ls' := [_, _, _]) f110_107 rfl (Nat.le_of_ble_eq_true rfl) rfl ?_
        refine ax_goto f110_110 rfl ?_
        refine am_X_mono (lp_110 (d := d) n (k + 1) (rdc T L p).2 (lo) _ o8 H8 i8 T8 (by omega) ⟨by omega, by omega⟩) (Nat.le_refl _) ?_
        rintro r h' ⟨g1, g2, g3, g4⟩
        have e : ldr T L (n + 1) p lo R1 = ldr T L n (rdc T L p).2 (lo) (cmd R1 (sg T L p) (fiN T L p) (seN T L p)).2 := by
          show (if _ then _ else _) = _
          rw [if_pos (by omega), if_pos (by omega)]
        rw [e]
        exact ⟨g1, g2, g3, (f9.mono fun q e => Or.inr e).trans ((f8.mono fun q e => Or.inl e).trans g4)⟩
      · refine ax_iinc (ls' := [_, _, _]) f110_104 rfl (Nat.le_of_ble_eq_true rfl) rfl ?_
        refine ax_iinc (ls' := [_, _, _]) f110_107 rfl (Nat.le_of_ble_eq_true rfl) rfl ?_
        refine ax_goto f110_110 rfl ?_
        refine am_X_mono (lp_110 (d := d) n (k + 1) (rdc T L p).2 (lo + 1) _ o8 H8 i8 T8 (by omega) ⟨by omega, by omega⟩) (Nat.le_refl _) ?_
        rintro r h' ⟨g1, g2, g3, g4⟩
        have e : ldr T L (n + 1) p lo R1 = ldr T L n (rdc T L p).2 (lo + 1) (cmd R1 (sg T L p) (fiN T L p) (seN T L p)).2 := by
          show (if _ then _ else _) = _
          rw [if_pos (by omega), if_neg (by omega)]
        rw [e]
        exact ⟨g1, g2, g3, (f9.mono fun q e => Or.inr e).trans ((f8.mono fun q e => Or.inl e).trans g4)⟩
theorem k_110_1 {h : am_H} {R : Int → Int} {S : Int → Int → Int} {c : Int} {G : Nat → Int → Int} {b : Int → Int} {T : Int → Int} {L : Int} (a : Cls h (R, S, c, G, b, T, L)) (k : okS (R, S, c, G, b, T, L)) (h0 : ¬ errP T L = -1) : am_X 56 110 0 (am_ent 110 [.ref 0]) [] h (Cthr h ISE (R, S, c, G, b, T, L)) := by
  show am_X 56 110 0 [.ref 0, am_u, am_u] [] h _
  obtain ⟨o, hH, ⟨R2, hH2⟩, hF, hS, hP, hU, hHi, hSl, pos, le, fi, se, hT⟩ := id a
  have hH : Herd h 1 R := hH
  have hHi : Hist h 33 S c := hHi
  have hSl : Slot h 105 G b := hSl
  have hT : Tx h 118 T L pos le fi se := hT
  have i : inv R := k.1
  obtain ⟨nx, M, f, ho, he, hoa, hm, hrg⟩ := id hHi
  obtain ⟨kl1, kl2⟩ : 0 ≤ L ∧ L ≤ 120 := k.2.2.2.2.2.1
  obtain ⟨kc1, kc2⟩ : 0 ≤ c ∧ c ≤ 14 := k.2.2.1
  have hE := epl_in (T := T) (L := L) kl2 120 1 (by omega)
  have hE : -1 ≤ errP T L ∧ errP T L ≤ 130 := by unfold errP; split <;> omega
  refine ax_aload_n f110_0 rfl ?_
  refine ax_getf f110_1 o rfl ?_
  refine ax_cvI (rest := []) f110_4 hT.1 rfl rfl rfl rfl rfl rfl rfl rfl (c_100 hT) ?_
  rintro h9 ⟨⟨p9, le9, fi9, se9, T9⟩, f9⟩
  have T9 : Tx h9 118 T L p9 le9 fi9 se9 := T9
  have f9 : fr (fun q => q = 118) h h9 := f9
  obtain ⟨A9, g9⟩ := Cls_t (T' := T) (L' := L) a (f9.mono fun q e => Or.inl e) ⟨_, _, _, _, T9⟩
  refine ax_iconst f110_7 ?_
  refine ax_icmp_eq f110_8 rfl ⟨by omega, by omega⟩ ⟨by omega, by omega⟩ (fun q8 => absurd q8 (by omega)) (fun q8 => ?_)
  refine ax_throw f110_11 rfl ?_
  exact ⟨rfl, _, rfl, A9, g9⟩
theorem k_110 {h : am_H} {R : Int → Int} {S : Int → Int → Int} {c : Int} {G : Nat → Int → Int} {b : Int → Int} {T : Int → Int} {L : Int} (a : Cls h (R, S, c, G, b, T, L)) (k : okS (R, S, c, G, b, T, L)) (h0 : errP T L = -1) : am_X 56 110 0 (am_ent 110 [.ref 0]) [] h (Cout h ((ldr T L 120 1 0 beg).1) ((ldr T L 120 1 0 beg).2, S, 0, G, fun _ => 0, T, L)) := by
  show am_X 56 110 0 [.ref 0, am_u, am_u] [] h _
  obtain ⟨o, hH, ⟨R2, hH2⟩, hF, hS, hP, hU, hHi, hSl, pos, le, fi, se, hT⟩ := id a
  have hH : Herd h 1 R := hH
  have hHi : Hist h 33 S c := hHi
  have hSl : Slot h 105 G b := hSl
  have hT : Tx h 118 T L pos le fi se := hT
  have i : inv R := k.1
  obtain ⟨nx, M, f, ho, he, hoa, hm, hrg⟩ := id hHi
  obtain ⟨kl1, kl2⟩ : 0 ≤ L ∧ L ≤ 120 := k.2.2.2.2.2.1
  obtain ⟨kc1, kc2⟩ : 0 ≤ c ∧ c ≤ 14 := k.2.2.1
  have hE := epl_in (T := T) (L := L) kl2 120 1 (by omega)
  have hE : -1 ≤ errP T L ∧ errP T L ≤ 130 := by unfold errP; split <;> omega
  refine ax_aload_n f110_0 rfl ?_
  refine ax_getf f110_1 o rfl ?_
  refine ax_cvI (rest := []) f110_4 hT.1 rfl rfl rfl rfl rfl rfl rfl rfl (c_100 hT) ?_
  rintro h9 ⟨⟨p9, le9, fi9, se9, T9⟩, f9⟩
  have T9 : Tx h9 118 T L p9 le9 fi9 se9 := T9
  have f9 : fr (fun q => q = 118) h h9 := f9
  obtain ⟨A9, g9⟩ := Cls_t (T' := T) (L' := L) a (f9.mono fun q e => Or.inl e) ⟨_, _, _, _, T9⟩
  obtain ⟨o9, hH9, ⟨R29, hH29⟩, hF9, hS9, hP9, hU9, hHi9, hSl9, _⟩ := id A9
  have hH9 : Herd h9 1 R := hH9
  have hHi9 : Hist h9 33 S c := hHi9
  have hSl9 : Slot h9 105 G b := hSl9
  refine ax_iconst f110_7 ?_
  refine ax_icmp_eq f110_8 rfl ⟨by omega, by omega⟩ ⟨by omega, by omega⟩ (fun q8 => ?_) (fun q8 => absurd q8 (by omega))
  refine ax_aload_n f110_21 rfl ?_
  refine ax_getf f110_22 o9 rfl ?_
  refine ax_aload_n f110_25 rfl ?_
  refine ax_getf f110_26 o9 rfl ?_
  refine ax_cvV (rest := []) f110_29 hH9.2.1.1 rfl rfl rfl rfl rfl rfl rfl rfl (c_42 hH9.2.1 hF9 (by omega) (Or.inl rfl)) ?_
  rintro h8 ⟨M8, f8⟩
  have f8 : fr (MS (1 + 1)) h9 h8 := f8
  have H8 := hH9.me M8 f8
  have f8 := MS_HS f8
  obtain ⟨A8, g8⟩ := Cls_m A9 f8 H8
  have g8 := g9.trans g8
  have hHi8 := hHi9.mv f8 (fun q hq => by unfold HiS at hq; unfold HS; omega)
  obtain ⟨nx8, M8, f8, ho8, _⟩ := id hHi8
  have o8 := A8.1
  refine ax_aload_n f110_32 rfl ?_
  refine ax_getf f110_33 o8 rfl ?_
  refine ax_cvV (rest := []) f110_36 ho8 rfl rfl rfl rfl rfl rfl rfl rfl (c_37 hHi8) ?_
  rintro h7 ⟨Hi7, f7⟩
  have f7 : fr (HiS 33) h8 h7 := f7
  have H7 := H8.mv f7 (fun x x1 x2 => by unfold HiS; omega)
  obtain ⟨A7, g7⟩ := Cls_F A8 (f7.mono fun q e => Or.inl e) Hi7 H7
  have g7 := g8.trans g7
  have o7 := A7.1
  have hSl7 : Slot h7 105 G b := A7.2.2.2.2.2.2.2.2.1
  refine ax_aload_n f110_39 rfl ?_
  refine ax_getf f110_40 o7 rfl ?_
  refine ax_cvV (rest := []) f110_43 hSl7.choose_spec.1 rfl rfl rfl rfl rfl rfl rfl rfl (c_87 hSl7) ?_
  rintro h6 ⟨Sl6, f6⟩
  have f6 : fr (SlS 105) h7 h6 := f6
  obtain ⟨A6, g6⟩ := Cls_l A7 f6 Sl6
  have g6 := g7.trans g6
  have o6 := A6.1
  have H6 : Herd h6 1 beg := A6.2.1
  obtain ⟨p6, le6, fi6, se6, T6⟩ := A6.2.2.2.2.2.2.2.2.2
  have T6 : Tx h6 118 T L p6 le6 fi6 se6 := T6
  refine ax_iconst f110_46 ?_
  refine ax_istore_n (ls' := [_, _, _]) f110_47 (Nat.le_of_ble_eq_true rfl) rfl ?_
  refine ax_aload_n f110_48 rfl ?_
  refine ax_getf f110_49 o6 rfl ?_
  refine ax_cvV (rest := []) f110_52 T6.1 rfl rfl rfl rfl rfl rfl rfl rfl (c_99 T6) ?_
  rintro h5 ⟨T5, f5⟩
  have f5 : fr (fun q => q = 118) h6 h5 := f5
  have o5 := f5.at (q := 0) (by omega) o6
  have H5 := H6.mv f5 (fun x x1 x2 => by omega)
  refine ax_iconst f110_55 ?_
  refine ax_istore_n (ls' := [_, _, _]) f110_56 (Nat.le_of_ble_eq_true rfl) rfl ?_
  refine am_X_mono (lp_110 (d := 0) 120 0 1 0 beg o5 H5 inv_beg T5 (by omega) ⟨by omega, by omega⟩) (Nat.le_refl _) ?_
  rintro r h' ⟨e1, e2, e3, e4⟩
  obtain ⟨A4, g4⟩ := Cls_ht A6 ((f5.mono fun q e => Or.inr e).trans e4) e2 e3
  exact ⟨e1, A4, g6.trans g4⟩
end LOD
