/-! ===== the class: the best way, the farthest block, scripts, simulations, texts loaded ===== -/
section LOP
theorem Cout_tr {h h1 : am_H} {v : Int} {s : St} {r : am_R} {h' : am_H} (f : fr FC h h1) (a : Cout h1 v s r h') : Cout h v s r h' := ⟨a.1, a.2.1, f.trans a.2.2⟩
def bwl (R : Int → Int) : Nat → Int → Int → Int
  | 0, _, best => best
  | n + 1, w, best => bwl R n (w + 1) (if (sek R w).1 < (sek R best).1 then w else best)
def bwy (R : Int → Int) : Int := if R 192 = 1 ∨ R 269 = 0 then bwl R 2 1 0 else -1
theorem lp_124 {d : Nat} {R : Int → Int} {S : Int → Int → Int} {c : Int} {G : Nat → Int → Int} {b : Int → Int} {T : Int → Int} {L : Int} (k : okS (R, S, c, G, b, T, L)) : ∀ (n : Nat) {h : am_H} (a : Cls h (R, S, c, G, b, T, L)) (w best : Int), w + n = 3 → 0 < w ∧ 0 ≤ best ∧ best < w → am_X (d + 54) 124 18 [.ref 0, .int (iI best), .int (iI (sek R best).1), .int (iI w)] [] h (Cout h (bwl R n w best) (R, S, c, G, b, T, L))
  | 0, h, a, w, best, h1, h2 => by
    have h1 : w = 3 := by omega
    subst h1
    refine ax_iload_n f124_18 rfl ?_
    refine ax_iconst f124_19 ?_
    refine ax_icmp_ge f124_20 rfl ⟨by omega, by omega⟩ ⟨by omega, by omega⟩ (fun q20 => ?_) (fun q20 => absurd q20 (by omega))
    refine ax_iload_n f124_67 rfl ?_
    refine ax_ireturn f124_68 rfl rfl ?_
    exact ⟨rI_of rfl, a, fr_rf⟩
  | n + 1, h, a, w, best, h1, h2 => by
    obtain ⟨o, hH, ⟨R2, hH2⟩, hF, hS, hP, hU, hHi, hSl, pos, le, fi, se, hT⟩ := id a
    have hH : Herd h 1 R := hH
    have hHi : Hist h 33 S c := hHi
    have hSl : Slot h 105 G b := hSl
    have hT : Tx h 118 T L pos le fi se := hT
    have i : inv R := k.1
    obtain ⟨nx, M, f, ho, he, hoa, hm, hrg⟩ := id hHi
    obtain ⟨kl1, kl2⟩ : 0 ≤ L ∧ L ≤ 120 := k.2.2.2.2.2.1
    obtain ⟨kc1, kc2⟩ : 0 ≤ c ∧ c ≤ 14 := k.2.2.1
    refine ax_iload_n f124_18 rfl ?_
    refine ax_iconst f124_19 ?_
    refine ax_icmp_ge f124_20 rfl ⟨by omega, by omega⟩ ⟨by omega, by omega⟩ (fun q20 => absurd q20 (by omega)) (fun q20 => ?_)
    refine ax_aload_n f124_23 rfl ?_
    refine ax_getf f124_24 o rfl ?_
    refine ax_aload_n f124_27 rfl ?_
    refine ax_getf f124_28 o rfl ?_
    refine ax_iload_n f124_31 rfl ?_
    refine ax_cvV (rest := []) f124_32 hS.1.choose_spec.choose_spec.choose_spec rfl rfl rfl rfl rfl rfl rfl rfl (c_81 hS hH.2.1 i (by omega) (by omega)) ?_
    rintro h9 ⟨s9, g9, f9⟩
    have s9 : Sob h9 24 2 _ _ := s9
    have o9 := f9.at (q := 0) (by omega) o
    obtain ⟨g1, g2⟩ := Cls_sr a s9 g9 f9
    refine ax_iload_n f124_35 rfl ?_
    refine ax_iconst f124_36 ?_
    have hw1 := (sek_sp i.ff i.b12 w).2
    have hw2 := (sek_sp i.ff i.b12 best).2
    refine ax_icmp_eq f124_37 rfl ⟨by omega, by omega⟩ ⟨by omega, by omega⟩ (fun q37 => absurd q37 (by omega)) (fun q37 => ?_)
    refine ax_aload_n f124_40 rfl ?_
    refine ax_getf f124_41 o9 rfl ?_
    refine ax_getf f124_44 s9 rfl ?_
    refine ax_iload_n f124_47 rfl ?_
    refine ax_icmp_ge f124_48 rfl ⟨by omega, by omega⟩ ⟨by omega, by omega⟩ (fun q48 => ?_) (fun q48 => ?_)
    · refine ax_iinc (ls' := [_, _, _, _]) f124_61 rfl (Nat.le_of_ble_eq_true rfl) rfl ?_
      refine ax_goto f124_64 rfl ?_
      refine am_X_mono (lp_124 k n g1 (w + 1) best (by omega) (by omega)) (Nat.le_refl _) ?_
      intro r h' z
      refine Cout_tr g2 ?_
      unfold bwl
      rw [if_neg (by omega)]
      exact z
    · refine ax_iload_n f124_51 rfl ?_
      refine ax_istore_n (ls' := [_, _, _, _]) f124_52 (Nat.le_of_ble_eq_true rfl) rfl ?_
      refine ax_aload_n f124_53 rfl ?_
      refine ax_getf f124_54 o9 rfl ?_
      refine ax_getf f124_57 s9 rfl ?_
      refine ax_istore_n (ls' := [_, _, _, _]) f124_60 (Nat.le_of_ble_eq_true rfl) rfl ?_
      refine ax_iinc (ls' := [_, _, _, _]) f124_61 rfl (Nat.le_of_ble_eq_true rfl) rfl ?_
      refine ax_goto f124_64 rfl ?_
      refine am_X_mono (lp_124 k n g1 (w + 1) w (by omega) (by omega)) (Nat.le_refl _) ?_
      intro r h' z
      refine Cout_tr g2 ?_
      unfold bwl
      rw [if_pos (by omega)]
      exact z
theorem k_124_n {h : am_H} {R : Int → Int} {S : Int → Int → Int} {c : Int} {G : Nat → Int → Int} {b : Int → Int} {T : Int → Int} {L : Int} (a : Cls h (R, S, c, G, b, T, L)) (k : okS (R, S, c, G, b, T, L)) (h0 : ¬ (R 192 = 1 ∨ R 269 = 0)) : am_X 54 124 0 (am_ent 124 [.ref 0]) [] h (Cout h (bwy R) (R, S, c, G, b, T, L)) := by
  show am_X 54 124 0 [.ref 0, am_u, am_u, am_u] [] h _
  obtain ⟨o, hH, ⟨R2, hH2⟩, hF, hS, hP, hU, hHi, hSl, pos, le, fi, se, hT⟩ := id a
  have hH : Herd h 1 R := hH
  have hHi : Hist h 33 S c := hHi
  have hSl : Slot h 105 G b := hSl
  have hT : Tx h 118 T L pos le fi se := hT
  have i : inv R := k.1
  obtain ⟨nx, M, f, ho, he, hoa, hm, hrg⟩ := id hHi
  obtain ⟨kl1, kl2⟩ : 0 ≤ L ∧ L ≤ 120 := k.2.2.2.2.2.1
  obtain ⟨kc1, kc2⟩ : 0 ≤ c ∧ c ≤ 14 := k.2.2.1
  refine ax_aload_n f124_0 rfl ?_
  refine ax_getf f124_1 o rfl ?_
  refine ax_cvI (rest := []) f124_4 hH.2.1.1 rfl rfl rfl rfl rfl rfl rfl rfl (c_56 hH.2.1 i.td i.tr) ?_
  intro _ e_
  obtain rfl := e_.symm
  clear e_
  rw [b2i_f h0]
  refine ax_if_ne f124_7 rfl ⟨by omega, by omega⟩ (fun q7 => absurd q7 (by omega)) (fun q7 => ?_)
  refine ax_iconst f124_10 ?_
  refine ax_ireturn f124_11 rfl rfl ?_
  exact ⟨rI_of (by unfold bwy; rw [if_neg h0]), a, fr_rf⟩
theorem k_124_y {h : am_H} {R : Int → Int} {S : Int → Int → Int} {c : Int} {G : Nat → Int → Int} {b : Int → Int} {T : Int → Int} {L : Int} (a : Cls h (R, S, c, G, b, T, L)) (k : okS (R, S, c, G, b, T, L)) (h0 : R 192 = 1 ∨ R 269 = 0) : am_X 54 124 0 (am_ent 124 [.ref 0]) [] h (Cout h (bwy R) (R, S, c, G, b, T, L)) := by
  show am_X 54 124 0 [.ref 0, am_u, am_u, am_u] [] h _
  obtain ⟨o, hH, ⟨R2, hH2⟩, hF, hS, hP, hU, hHi, hSl, pos, le, fi, se, hT⟩ := id a
  have hH : Herd h 1 R := hH
  have hHi : Hist h 33 S c := hHi
  have hSl : Slot h 105 G b := hSl
  have hT : Tx h 118 T L pos le fi se := hT
  have i : inv R := k.1
  obtain ⟨nx, M, f, ho, he, hoa, hm, hrg⟩ := id hHi
  obtain ⟨kl1, kl2⟩ : 0 ≤ L ∧ L ≤ 120 := k.2.2.2.2.2.1
  obtain ⟨kc1, kc2⟩ : 0 ≤ c ∧ c ≤ 14 := k.2.2.1
  refine ax_aload_n f124_0 rfl ?_
  refine ax_getf f124_1 o rfl ?_
  refine ax_cvI (rest := []) f124_4 hH.2.1.1 rfl rfl rfl rfl rfl rfl rfl rfl (c_56 hH.2.1 i.td i.tr) ?_
  intro _ e_
  obtain rfl := e_.symm
  clear e_
  rw [b2i_t h0]
  refine ax_if_ne f124_7 rfl ⟨by omega, by omega⟩ (fun q7 => ?_) (fun q7 => absurd q7 (by omega))
  refine ax_iconst f124_12 ?_
  refine ax_istore_n (ls' := [_, _, _, _]) f124_13 (Nat.le_of_ble_eq_true rfl) rfl ?_
  refine ax_iconst f124_14 ?_
  refine ax_istore_n (ls' := [_, _, _, _]) f124_15 (Nat.le_of_ble_eq_true rfl) rfl ?_
  refine ax_iconst f124_16 ?_
  refine ax_istore_n (ls' := [_, _, _, _]) f124_17 (Nat.le_of_ble_eq_true rfl) rfl ?_
  refine ax_iload_n f124_18 rfl ?_
  refine ax_iconst f124_19 ?_
  refine ax_icmp_ge f124_20 rfl ⟨by omega, by omega⟩ ⟨by omega, by omega⟩ (fun q20 => absurd q20 (by omega)) (fun q20 => ?_)
  refine ax_aload_n f124_23 rfl ?_
  refine ax_getf f124_24 o rfl ?_
  refine ax_aload_n f124_27 rfl ?_
  refine ax_getf f124_28 o rfl ?_
  refine ax_iload_n f124_31 rfl ?_
  refine ax_cvV (rest := []) f124_32 hS.1.choose_spec.choose_spec.choose_spec rfl rfl rfl rfl rfl rfl rfl rfl (c_81 hS hH.2.1 i (by omega) (by omega)) ?_
  rintro h9 ⟨s9, g9, f9⟩
  have s9 : Sob h9 24 2 _ _ := s9
  have o9 := f9.at (q := 0) (by omega) o
  obtain ⟨g1, g2⟩ := Cls_sr a s9 g9 f9
  refine ax_iload_n f124_35 rfl ?_
  refine ax_iconst f124_36 ?_
  refine ax_icmp_eq f124_37 rfl ⟨by omega, by omega⟩ ⟨by omega, by omega⟩ (fun q37 => ?_) (fun q37 => absurd q37 (by omega))
  refine ax_iload_n f124_51 rfl ?_
  refine ax_istore_n (ls' := [_, _, _, _]) f124_52 (Nat.le_of_ble_eq_true rfl) rfl ?_
  refine ax_aload_n f124_53 rfl ?_
  refine ax_getf f124_54 o9 rfl ?_
  refine ax_getf f124_57 s9 rfl ?_
  refine ax_istore_n (ls' := [_, _, _, _]) f124_60 (Nat.le_of_ble_eq_true rfl) rfl ?_
  refine ax_iinc (ls' := [_, _, _, _]) f124_61 rfl (Nat.le_of_ble_eq_true rfl) rfl ?_
  refine ax_goto f124_64 rfl ?_
  refine am_X_mono (lp_124 (d := 0) k 2 g1 1 0 (by omega) (by omega)) (Nat.le_refl _) ?_
  intro r h' z
  refine Cout_tr g2 ?_
  unfold bwy
  rw [if_pos h0]
  exact z
def ofZ (R : Int → Int) (n : Int) : Int := if 0 ≤ R (193 + n) - fld R (fro R n) (fro R (n + 1)) then R (193 + n) - fld R (fro R n) (fro R (n + 1)) else -(R (193 + n) - fld R (fro R n) (fro R (n + 1)))
def fal (R : Int → Int) : Nat → Int → Int → Int → Int
  | 0, _, best, _ => best
  | n + 1, w, best, most => if most < ofZ R w then fal R n (w + 1) w (ofZ R w) else fal R n (w + 1) best most
def far (R : Int → Int) : Int := if R 192 = 1 then fal R (blk R).toNat 0 (-1) 0 else -1
theorem lp_129 {d : Nat} {h : am_H} {R : Int → Int} {S : Int → Int → Int} {c : Int} {G : Nat → Int → Int} {b : Int → Int} {T : Int → Int} {L : Int} (a : Cls h (R, S, c, G, b, T, L)) (k : okS (R, S, c, G, b, T, L)) : ∀ (n : Nat) (w best most : Int) {x : Value}, w + n = blk R → 0 ≤ w ∧ 0 ≤ most ∧ most ≤ 10000 → am_X (d + 3) 129 27 [.ref 0, .int (iI (blk R)), .int (iI best), .int (iI most), .int (iI w), x] [] h (Cout h (fal R n w best most) (R, S, c, G, b, T, L))
  | 0, w, best, most, x, h1, h2 => by
    have h1 : w = blk R := by omega
    have hb12 : blk R ≤ 12 := (show inv R from k.1).b12
    subst h1
    refine ax_iload f129_27 rfl ?_
    refine ax_iload_n f129_29 rfl ?_
    refine ax_icmp_ge f129_30 rfl ⟨by omega, by omega⟩ ⟨by omega, by omega⟩ (fun q30 => ?_) (fun q30 => absurd q30 (by omega))
    refine ax_iload_n f129_93 rfl ?_
    refine ax_ireturn f129_94 rfl rfl ?_
    exact ⟨rI_of rfl, a, fr_rf⟩
  | n + 1, w, best, most, x, h1, h2 => by
    have hb12 : blk R ≤ 12 := (show inv R from k.1).b12
    obtain ⟨o, hH, ⟨R2, hH2⟩, hF, hS, hP, hU, hHi, hSl, pos, le, fi, se, hT⟩ := id a
    have hH : Herd h 1 R := hH
    have hHi : Hist h 33 S c := hHi
    have hSl : Slot h 105 G b := hSl
    have hT : Tx h 118 T L pos le fi se := hT
    have i : inv R := k.1
    obtain ⟨nx, M, f, ho, he, hoa, hm, hrg⟩ := id hHi
    obtain ⟨kl1, kl2⟩ : 0 ≤ L ∧ L ≤ 120 := k.2.2.2.2.2.1
    obtain ⟨kc1, kc2⟩ : 0 ≤ c ∧ c ≤ 14 := k.2.2.1
    refine ax_iload f129_27 rfl ?_
    refine ax_iload_n f129_29 rfl ?_
    refine ax_icmp_ge f129_30 rfl ⟨by omega, by omega⟩ ⟨by omega, by omega⟩ (fun q30 => absurd q30 (by omega)) (fun q30 => ?_)
    have hb12 := i.b12
    obtain ⟨b1, b2, b3⟩ := fro_lt i.ff h2.1 (by omega)
    have b4 := (fro_sp i.ff w).1
    have b5 := (fro_sp i.ff (w + 1)).2.1
    have hsu := i.su h2.1 (by omega)
    have hfl := fld_in i.1.1 (a := fro R w) (b := fro R (w + 1)) b4 (by omega) b5
    have hbk := bok_in i.1.1 (a := fro R w) (b := fro R (w + 1)) b4 (by omega) b5
    refine ax_aload_n f129_33 rfl ?_
    refine ax_getf f129_34 o rfl ?_
    refine ax_iload f129_37 rfl ?_
    refine ax_cvI (rest := []) f129_39 hH.2.1.1 rfl rfl rfl rfl rfl rfl rfl rfl (c_47 hH.2.1 h2.1 (by omega)) ?_
    intro _ e_
    obtain rfl := e_.symm
    clear e_
    refine ax_aload_n f129_42 rfl ?_
    refine ax_getf f129_43 o rfl ?_
    refine ax_aload_n f129_46 rfl ?_
    refine ax_getf f129_47 o rfl ?_
    refine ax_iload f129_50 rfl ?_
    refine ax_cvI (rest := [_, _]) f129_52 hH.2.1.1 rfl rfl rfl rfl rfl rfl rfl rfl (c_50 hH.2.1 i.ff h2.1 (by omega)) ?_
    intro _ e_
    obtain rfl := e_.symm
    clear e_
    refine ax_aload_n f129_55 rfl ?_
    refine ax_getf f129_56 o rfl ?_
    refine ax_iload f129_59 rfl ?_
    refine ax_iconst f129_61 ?_
    refine ax_iadd f129_62 ?_
    refine ax_cvI (rest := [_, _, _]) f129_63 hH.2.1.1 rfl rfl rfl rfl rfl rfl rfl rfl (c_50 hH.2.1 i.ff (by omega) (by omega)) ?_
    intro _ e_
    obtain rfl := e_.symm
    clear e_
    refine ax_cvI (rest := [_]) f129_66 hH.2.1.1 rfl rfl rfl rfl rfl rfl rfl rfl (c_53 hH.2.1 i.1.2.1 b4 (by omega) b5) ?_
    intro _ e_
    obtain rfl := e_.symm
    clear e_
    refine ax_isub f129_69 ?_
    refine ax_abs f129_70 (Nat.le_of_ble_eq_true rfl) ⟨by omega, by omega⟩ ?_
    show am_X _ _ _ _ (.int (iI (ofZ R w)) :: _) _ _
    have hof : 0 ≤ ofZ R w ∧ ofZ R w ≤ 10000 := by unfold ofZ; split <;> omega
    refine ax_istore (ls' := [_, _, _, _, _, _]) f129_73 (Nat.le_of_ble_eq_true rfl) rfl ?_
    refine ax_iload f129_75 rfl ?_
    refine ax_iload_n f129_77 rfl ?_
    refine ax_icmp_le f129_78 rfl ⟨by omega, by omega⟩ ⟨by omega, by omega⟩ (fun q78 => ?_) (fun q78 => ?_)
    · refine ax_iinc (ls' := [_, _, _, _, _, _]) f129_87 rfl (Nat.le_of_ble_eq_true rfl) rfl ?_
      refine ax_goto f129_90 rfl ?_
      have z := lp_129 (d := d) a k n (w + 1) best most (x := .int (iI (ofZ R w))) (by omega) (by omega)
      unfold fal
      rw [if_neg (by omega)]
      exact z
    · refine ax_iload f129_81 rfl ?_
      refine ax_istore_n (ls' := [_, _, _, _, _, _]) f129_83 (Nat.le_of_ble_eq_true rfl) rfl ?_
      refine ax_iload f129_84 rfl ?_
      refine ax_istore_n (ls' := [_, _, _, _, _, _]) f129_86 (Nat.le_of_ble_eq_true rfl) rfl ?_
      refine ax_iinc (ls' := [_, _, _, _, _, _]) f129_87 rfl (Nat.le_of_ble_eq_true rfl) rfl ?_
      refine ax_goto f129_90 rfl ?_
      have z := lp_129 (d := d) a k n (w + 1) w (ofZ R w) (x := .int (iI (ofZ R w))) (by omega) (by omega)
      unfold fal
      rw [if_pos (by omega)]
      exact z
theorem k_129_n {h : am_H} {R : Int → Int} {S : Int → Int → Int} {c : Int} {G : Nat → Int → Int} {b : Int → Int} {T : Int → Int} {L : Int} (a : Cls h (R, S, c, G, b, T, L)) (k : okS (R, S, c, G, b, T, L)) (h0 : ¬ R 192 = 1) : am_X 3 129 0 (am_ent 129 [.ref 0]) [] h (Cout h (far R) (R, S, c, G, b, T, L)) := by
  show am_X 3 129 0 [.ref 0, am_u, am_u, am_u, am_u, am_u] [] h _
  obtain ⟨o, hH, ⟨R2, hH2⟩, hF, hS, hP, hU, hHi, hSl, pos, le, fi, se, hT⟩ := id a
  have hH : Herd h 1 R := hH
  have hHi : Hist h 33 S c := hHi
  have hSl : Slot h 105 G b := hSl
  have hT : Tx h 118 T L pos le fi se := hT
  have i : inv R := k.1
  obtain ⟨nx, M, f, ho, he, hoa, hm, hrg⟩ := id hHi
  obtain ⟨kl1, kl2⟩ : 0 ≤ L ∧ L ≤ 120 := k.2.2.2.2.2.1
  obtain ⟨kc1, kc2⟩ : 0 ≤ c ∧ c ≤ 14 := k.2.2.1
  have itd := i.td
  refine ax_aload_n f129_0 rfl ?_
  refine ax_getf f129_1 o rfl ?_
  refine ax_getf f129_4 hH.2.1.1 rfl ?_
  refine ax_if_ne f129_7 rfl ⟨by omega, by omega⟩ (fun q7 => absurd q7 (by omega)) (fun q7 => ?_)
  refine ax_iconst f129_10 ?_
  refine ax_ireturn f129_11 rfl rfl ?_
  exact ⟨rI_of (by unfold far; rw [if_neg h0]), a, fr_rf⟩
theorem k_129_y {h : am_H} {R : Int → Int} {S : Int → Int → Int} {c : Int} {G : Nat → Int → Int} {b : Int → Int} {T : Int → Int} {L : Int} (a : Cls h (R, S, c, G, b, T, L)) (k : okS (R, S, c, G, b, T, L)) (h0 : R 192 = 1) : am_X 3 129 0 (am_ent 129 [.ref 0]) [] h (Cout h (far R) (R, S, c, G, b, T, L)) := by
  show am_X 3 129 0 [.ref 0, am_u, am_u, am_u, am_u, am_u] [] h _
  obtain ⟨o, hH, ⟨R2, hH2⟩, hF, hS, hP, hU, hHi, hSl, pos, le, fi, se, hT⟩ := id a
  have hH : Herd h 1 R := hH
  have hHi : Hist h 33 S c := hHi
  have hSl : Slot h 105 G b := hSl
  have hT : Tx h 118 T L pos le fi se := hT
  have i : inv R := k.1
  obtain ⟨nx, M, f, ho, he, hoa, hm, hrg⟩ := id hHi
  obtain ⟨kl1, kl2⟩ : 0 ≤ L ∧ L ≤ 120 := k.2.2.2.2.2.1
  obtain ⟨kc1, kc2⟩ : 0 ≤ c ∧ c ≤ 14 := k.2.2.1
  have itd := i.td
  have hb1 := blk_1 i.ff
  refine ax_aload_n f129_0 rfl ?_
  refine ax_getf f129_1 o rfl ?_
  refine ax_getf f129_4 hH.2.1.1 rfl ?_
  refine ax_if_ne f129_7 rfl ⟨by omega, by omega⟩ (fun q7 => ?_) (fun q7 => absurd q7 (by omega))
  refine ax_aload_n f129_12 rfl ?_
  refine ax_getf f129_13 o rfl ?_
  refine ax_cvI (rest := []) f129_16 hH.2.1.1 rfl rfl rfl rfl rfl rfl rfl rfl (c_48 hH.2.1 i.ff) ?_
  intro _ e_
  obtain rfl := e_.symm
  clear e_
  refine ax_istore_n (ls' := [_, _, _, _, _, _]) f129_19 (Nat.le_of_ble_eq_true rfl) rfl ?_
  refine ax_iconst f129_20 ?_
  refine ax_istore_n (ls' := [_, _, _, _, _, _]) f129_21 (Nat.le_of_ble_eq_true rfl) rfl ?_
  refine ax_iconst f129_22 ?_
  refine ax_istore_n (ls' := [_, _, _, _, _, _]) f129_23 (Nat.le_of_ble_eq_true rfl) rfl ?_
  refine ax_iconst f129_24 ?_
  refine ax_istore (ls' := [_, _, _, _, _, _]) f129_25 (Nat.le_of_ble_eq_true rfl) rfl ?_
  have z := lp_129 (d := 0) a k (blk R).toNat 0 (-1) 0 (x := am_u) (by omega) (by omega)
  unfold far
  rw [if_pos h0]
  exact z
def tr33 (x : Int64) : Int := ((x.toBitVec.toNat / 2 ^ 33 : Nat) : Int)
theorem tr33_in (x : Int64) : 0 ≤ tr33 x ∧ tr33 x < 2147483648 := by
  have := x.toBitVec.isLt
  unfold tr33
  omega
theorem tr33_z (x : Int64) : (x.toUInt64 >>> ((iI 33).toInt64.toUInt64 &&& Int64.toUInt64 63)).toInt64.toInt32 = iI (tr33 x) := by
  obtain ⟨n, hn, rfl⟩ := wb_of x
  rw [show iI 33 = nI 33 from rfl, wb_shr hn (by decide), lN_i]
  unfold tr33
  rw [wb_tn hn, iI_nat]
def nxL (x : Int64) : Int64 := x * 6364136223846793005 + 1442695040888963407
def smR (g : Int64 → Int64) (t : Int64 → Int) : Nat → Int64 → (Int → Int) → (Int → Int)
  | 0, _, R => R
  | n + 1, x, R => smR g t n (g x) (trn R (t (g x)))
theorem smR_inv (g : Int64 → Int64) (t : Int64 → Int) : ∀ (n : Nat) (x : Int64) {R : Int → Int}, inv R → inv (smR g t n x R)
  | 0, _, _, i => i
  | n + 1, x, R, i => smR_inv g t n (g x) (trn_inv i _)
def smu (R : Int → Int) (x : Int64) (m : Int) : Int := 1000 * (smR nxL tr33 m.toNat x R 217 - R 217) + 10 * smR nxL tr33 m.toNat x R 266 + min (smR nxL tr33 m.toNat x R 267) 9
end LOP
