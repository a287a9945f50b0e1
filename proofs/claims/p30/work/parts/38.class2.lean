/-! ===== the class: actions ===== -/
section ACT
theorem Cls_F {h h' : am_H} {R R' : Int → Int} {S S' : Int → Int → Int} {c c' : Int} {G : Nat → Int → Int} {b : Int → Int} {T : Int → Int} {L : Int} (a : Cls h (R, S, c, G, b, T, L)) (F : fr (fun q => HiS 33 q ∨ HS 1 q) h h') (a1 : Hist h' 33 S' c') (a2 : Herd h' 1 R') : Cls h' (R', S', c', G, b, T, L) ∧ fr FC h h' := by
  obtain ⟨o, hH, ⟨R2, hH2⟩, hF, hS, hP, hU, hHi, hSl, pos, le, fi, se, hT⟩ := a
  exact ⟨⟨F.at (by unfold HiS HS; omega) o, a2, ⟨R2, hH2.mv F (fun x x1 x2 => by unfold HiS HS; omega)⟩, hF.fr F (fun x x1 x2 => by unfold HiS HS; omega), hS.fr F (fun x x1 x2 => by unfold HiS HS; omega), hP.mv F (fun x x1 x2 => by unfold HiS HS; omega), hU.mv F (by unfold HiS HS; omega) (by unfold HiS HS; omega), a1, hSl.mv F (fun q hq => by unfold SlS at hq; unfold HiS HS; omega), pos, le, fi, se, hT.mv F (by unfold HiS HS; omega) (by unfold HiS HS; omega)⟩, F.mono (fun q e => by unfold HiS HS at e; unfold FC; omega)⟩
/-- a search that is allowed -/
theorem c_35s {h : am_H} {q : Nat} {R : Int → Int} (hH : Herd h q R) (i : inv R) {z : Int} (h1 : 0 ≤ z ∧ z < 3) (h2 : R 192 = 1 ∨ R 269 = 0) : am_X 54 35 0 (am_ent 35 [.ref q, .int (iI z)]) [] h (fun r h' => rI r 1 ∧ Herd h' q (skd R z) ∧ (∃ v fd, h'.1[q + 6]? = some (.inr (5, [.ref (q + 7), v, .int (iI (sek R z).1), fd]))) ∧ fr (HS q) h h') := by
  show am_X 54 35 0 [.ref q, .int (iI z)] [] h _
  refine ax_iload_n f35_0 rfl ?_
  refine ax_csI (rest := []) f35_1 (Or.inr (Or.inl rfl)) rfl rfl rfl rfl rfl rfl (c_139 ⟨by omega, by omega⟩) ?_
  intro _ e_
  obtain rfl := e_.symm
  clear e_
  rw [b2i_t h1]
  refine ax_if_eq f35_4 rfl ⟨by omega, by omega⟩ (fun q4 => absurd q4 (by omega)) (fun q4 => ?_)
  refine ax_aload_n f35_7 rfl ?_
  refine ax_getf f35_8 hH.1 rfl ?_
  refine ax_cvI (rest := []) f35_11 hH.2.1.1 rfl rfl rfl rfl rfl rfl rfl rfl (c_56 hH.2.1 i.td i.tr) ?_
  intro _ e_
  obtain rfl := e_.symm
  clear e_
  rw [b2i_t h2]
  refine ax_if_ne f35_14 rfl ⟨by omega, by omega⟩ (fun q14 => ?_) (fun q14 => absurd q14 (by omega))
  refine ax_aload_n f35_19 rfl ?_
  refine ax_getf f35_20 hH.1 rfl ?_
  refine ax_aload_n f35_23 rfl ?_
  refine ax_getf f35_24 hH.1 rfl ?_
  refine ax_iload_n f35_27 rfl ?_
  refine ax_cvV (rest := []) f35_28 (hH.2.2.1.choose_spec.choose_spec.choose_spec) rfl rfl rfl rfl rfl rfl rfl rfl (c_81 hH.2.2 hH.2.1 i (by omega) (by omega)) ?_
  rintro h9 ⟨s9, g9, f9⟩
  have o9 := f9.at (q := q) (by omega) hH.1
  have m9 := hH.2.1.fr f9 (fun x x1 x2 => by omega)
  refine ax_aload_n f35_31 rfl ?_
  refine ax_getf f35_32 o9 rfl ?_
  refine ax_aload_n f35_35 rfl ?_
  refine ax_getf f35_36 o9 rfl ?_
  refine ax_getf f35_39 s9 rfl ?_
  refine ax_aload_n f35_42 rfl ?_
  refine ax_getf f35_43 o9 rfl ?_
  refine ax_getf f35_46 s9 rfl ?_
  refine ax_cvV (rest := []) f35_49 m9.1 rfl rfl rfl rfl rfl rfl rfl rfl (c_64 m9 (sek_sp i.ff i.b12 _).1 i.1.2.1 i.1.2.2.1) ?_
  rintro h8 ⟨m8, f8⟩
  refine ax_iconst f35_52 ?_
  refine ax_ireturn f35_53 rfl rfl ?_
  exact ⟨rI_of rfl, ⟨f8.at (by unfold MS; omega) o9, m8, (Sob.z s9 g9).fr f8 (fun x x1 x2 => by unfold MS; omega)⟩, ⟨_, _, f8.at (by unfold MS; omega) s9⟩, (f9.mono (fun x e => by unfold HS; omega)).trans (MS_HS f8)⟩
/-- the numbers of a block -/
def bof (R : Int → Int) (n w : Int) : Int := if w = 0 then fro R n else if w = 1 then fro R (n + 1) - fro R n else if w = 2 then bok R (fro R n) (fro R (n + 1)) else if w = 3 then fld R (fro R n) (fro R (n + 1)) else if w = 4 then R (205 + n) else R (193 + n)
theorem k_113_1 {h : am_H} {R : Int → Int} {S : Int → Int → Int} {c : Int} {G : Nat → Int → Int} {b : Int → Int} {T : Int → Int} {L : Int} (a : Cls h (R, S, c, G, b, T, L)) (k : okS (R, S, c, G, b, T, L)) {n z : Int} (hn : inI n) (h0 : ¬ (0 ≤ n ∧ n < blk R)) : am_X 4 113 0 (am_ent 113 [.ref 0, .int (iI n), .int (iI z)]) [] h (Cthr h IOB (R, S, c, G, b, T, L)) := by
  show am_X 4 113 0 [.ref 0, .int (iI n), .int (iI z), am_u, am_u] [] h _
  obtain ⟨o, hH, ⟨R2, hH2⟩, hF, hS, hP, hU, hHi, hSl, pos, le, fi, se, hT⟩ := id a
  have hH : Herd h 1 R := hH
  have hHi : Hist h 33 S c := hHi
  have hSl : Slot h 105 G b := hSl
  have hT : Tx h 118 T L pos le fi se := hT
  have i : inv R := k.1
  obtain ⟨nx, M, f, ho, he, hoa, hm, hrg⟩ := id hHi
  obtain ⟨kl1, kl2⟩ : 0 ≤ L ∧ L ≤ 120 := k.2.2.2.2.2.1
  obtain ⟨kc1, kc2⟩ : 0 ≤ c ∧ c ≤ 14 := k.2.2.1
  refine ax_aload_n f113_0 rfl ?_
  refine ax_getf f113_1 o rfl ?_
  refine ax_iload_n f113_4 rfl ?_
  refine ax_cvI (rest := []) f113_5 hH.2.1.1 rfl rfl rfl rfl rfl rfl rfl rfl (c_49 hH.2.1 i.ff i.b12 hn) ?_
  intro _ e_
  obtain rfl := e_.symm
  clear e_
  rw [b2i_f h0]
  refine ax_if_ne f113_8 rfl ⟨by omega, by omega⟩ (fun q8 => absurd q8 (by omega)) (fun q8 => ?_)
  refine ax_throw f113_11 rfl ?_
  exact ⟨rfl, _, rfl, a, fr_rf⟩
theorem k_113_2 {h : am_H} {R : Int → Int} {S : Int → Int → Int} {c : Int} {G : Nat → Int → Int} {b : Int → Int} {T : Int → Int} {L : Int} (a : Cls h (R, S, c, G, b, T, L)) (k : okS (R, S, c, G, b, T, L)) {n z : Int} (hn : inI n) (h0 : 0 ≤ n ∧ n < blk R) (hz : inI z) (h1 : ¬ (0 ≤ z ∧ z ≤ 5)) : am_X 4 113 0 (am_ent 113 [.ref 0, .int (iI n), .int (iI z)]) [] h (Cthr h IAE (R, S, c, G, b, T, L)) := by
  show am_X 4 113 0 [.ref 0, .int (iI n), .int (iI z), am_u, am_u] [] h _
  obtain ⟨o, hH, ⟨R2, hH2⟩, hF, hS, hP, hU, hHi, hSl, pos, le, fi, se, hT⟩ := id a
  have hH : Herd h 1 R := hH
  have hHi : Hist h 33 S c := hHi
  have hSl : Slot h 105 G b := hSl
  have hT : Tx h 118 T L pos le fi se := hT
  have i : inv R := k.1
  obtain ⟨nx, M, f, ho, he, hoa, hm, hrg⟩ := id hHi
  obtain ⟨kl1, kl2⟩ : 0 ≤ L ∧ L ≤ 120 := k.2.2.2.2.2.1
  obtain ⟨kc1, kc2⟩ : 0 ≤ c ∧ c ≤ 14 := k.2.2.1
  obtain ⟨hz1, hz2⟩ := hz
  refine ax_aload_n f113_0 rfl ?_
  refine ax_getf f113_1 o rfl ?_
  refine ax_iload_n f113_4 rfl ?_
  refine ax_cvI (rest := []) f113_5 hH.2.1.1 rfl rfl rfl rfl rfl rfl rfl rfl (c_49 hH.2.1 i.ff i.b12 hn) ?_
  intro _ e_
  obtain rfl := e_.symm
  clear e_
  rw [b2i_t h0]
  refine ax_if_ne f113_8 rfl ⟨by omega, by omega⟩ (fun q8 => ?_) (fun q8 => absurd q8 (by omega))
  refine ax_aload_n f113_21 rfl ?_
  refine ax_getf f113_22 o rfl ?_
  refine ax_iload_n f113_25 rfl ?_
  refine ax_cvI (rest := []) f113_26 hH.2.1.1 rfl rfl rfl rfl rfl rfl rfl rfl (c_50 hH.2.1 i.ff h0.1 (by have := i.b12; omega)) ?_
  intro _ e_
  obtain rfl := e_.symm
  clear e_
  refine ax_istore_n (ls' := [_, _, _, _, _]) f113_29 (Nat.le_of_ble_eq_true rfl) rfl ?_
  refine ax_aload_n f113_30 rfl ?_
  refine ax_getf f113_31 o rfl ?_
  refine ax_iload_n f113_34 rfl ?_
  refine ax_iconst f113_35 ?_
  refine ax_iadd f113_36 ?_
  refine ax_cvI (rest := []) f113_37 hH.2.1.1 rfl rfl rfl rfl rfl rfl rfl rfl (c_50 hH.2.1 i.ff (by omega) (by have := i.b12; omega)) ?_
  intro _ e_
  obtain rfl := e_.symm
  clear e_
  refine ax_istore (ls' := [_, _, _, _, _]) f113_40 (Nat.le_of_ble_eq_true rfl) rfl ?_
  refine ax_iload_n f113_42 rfl ?_
  refine ax_tswO f113_43 ⟨by omega, by omega⟩ (by omega) rfl ?_
  refine ax_throw f113_147 rfl ?_
  exact ⟨rfl, _, rfl, a, fr_rf⟩
theorem k_113_3 {h : am_H} {R : Int → Int} {S : Int → Int → Int} {c : Int} {G : Nat → Int → Int} {b : Int → Int} {T : Int → Int} {L : Int} (a : Cls h (R, S, c, G, b, T, L)) (k : okS (R, S, c, G, b, T, L)) {n : Int} (hn : inI n) (h0 : 0 ≤ n ∧ n < blk R) (h1 : R 192 = 0) : am_X 4 113 0 (am_ent 113 [.ref 0, .int (iI n), .int (iI 5)]) [] h (Cthr h ISE (R, S, c, G, b, T, L)) := by
  show am_X 4 113 0 [.ref 0, .int (iI n), .int (iI 5), am_u, am_u] [] h _
  obtain ⟨o, hH, ⟨R2, hH2⟩, hF, hS, hP, hU, hHi, hSl, pos, le, fi, se, hT⟩ := id a
  have hH : Herd h 1 R := hH
  have hHi : Hist h 33 S c := hHi
  have hSl : Slot h 105 G b := hSl
  have hT : Tx h 118 T L pos le fi se := hT
  have i : inv R := k.1
  obtain ⟨nx, M, f, ho, he, hoa, hm, hrg⟩ := id hHi
  obtain ⟨kl1, kl2⟩ : 0 ≤ L ∧ L ≤ 120 := k.2.2.2.2.2.1
  obtain ⟨kc1, kc2⟩ : 0 ≤ c ∧ c ≤ 14 := k.2.2.1
  refine ax_aload_n f113_0 rfl ?_
  refine ax_getf f113_1 o rfl ?_
  refine ax_iload_n f113_4 rfl ?_
  refine ax_cvI (rest := []) f113_5 hH.2.1.1 rfl rfl rfl rfl rfl rfl rfl rfl (c_49 hH.2.1 i.ff i.b12 hn) ?_
  intro _ e_
  obtain rfl := e_.symm
  clear e_
  rw [b2i_t h0]
  refine ax_if_ne f113_8 rfl ⟨by omega, by omega⟩ (fun q8 => ?_) (fun q8 => absurd q8 (by omega))
  refine ax_aload_n f113_21 rfl ?_
  refine ax_getf f113_22 o rfl ?_
  refine ax_iload_n f113_25 rfl ?_
  refine ax_cvI (rest := []) f113_26 hH.2.1.1 rfl rfl rfl rfl rfl rfl rfl rfl (c_50 hH.2.1 i.ff h0.1 (by have := i.b12; omega)) ?_
  intro _ e_
  obtain rfl := e_.symm
  clear e_
  refine ax_istore_n (ls' := [_, _, _, _, _]) f113_29 (Nat.le_of_ble_eq_true rfl) rfl ?_
  refine ax_aload_n f113_30 rfl ?_
  refine ax_getf f113_31 o rfl ?_
  refine ax_iload_n f113_34 rfl ?_
  refine ax_iconst f113_35 ?_
  refine ax_iadd f113_36 ?_
  refine ax_cvI (rest := []) f113_37 hH.2.1.1 rfl rfl rfl rfl rfl rfl rfl rfl (c_50 hH.2.1 i.ff (by omega) (by have := i.b12; omega)) ?_
  intro _ e_
  obtain rfl := e_.symm
  clear e_
  refine ax_istore (ls' := [_, _, _, _, _]) f113_40 (Nat.le_of_ble_eq_true rfl) rfl ?_
  refine ax_iload_n f113_42 rfl ?_
  refine ax_tswI f113_43 ⟨by omega, by omega⟩ (by omega) (by omega) rfl rfl ?_
  refine ax_aload_n f113_118 rfl ?_
  refine ax_getf f113_119 o rfl ?_
  refine ax_getf f113_122 hH.2.1.1 rfl ?_
  refine ax_if_ne f113_125 rfl ⟨by omega, by omega⟩ (fun q125 => absurd q125 (by omega)) (fun q125 => ?_)
  refine ax_throw f113_128 rfl ?_
  exact ⟨rfl, _, rfl, a, fr_rf⟩
theorem k_113 {h : am_H} {R : Int → Int} {S : Int → Int → Int} {c : Int} {G : Nat → Int → Int} {b : Int → Int} {T : Int → Int} {L : Int} (a : Cls h (R, S, c, G, b, T, L)) (k : okS (R, S, c, G, b, T, L)) {n z : Int} (hn : inI n) (h0 : 0 ≤ n ∧ n < blk R) (h1 : 0 ≤ z ∧ z ≤ 5) (h2 : ¬ (z = 5 ∧ R 192 = 0)) : am_X 4 113 0 (am_ent 113 [.ref 0, .int (iI n), .int (iI z)]) [] h (Cout h (bof R n z) (R, S, c, G, b, T, L)) := by
  show am_X 4 113 0 [.ref 0, .int (iI n), .int (iI z), am_u, am_u] [] h _
  obtain ⟨o, hH, ⟨R2, hH2⟩, hF, hS, hP, hU, hHi, hSl, pos, le, fi, se, hT⟩ := id a
  have hH : Herd h 1 R := hH
  have hHi : Hist h 33 S c := hHi
  have hSl : Slot h 105 G b := hSl
  have hT : Tx h 118 T L pos le fi se := hT
  have i : inv R := k.1
  obtain ⟨nx, M, f, ho, he, hoa, hm, hrg⟩ := id hHi
  obtain ⟨kl1, kl2⟩ : 0 ≤ L ∧ L ≤ 120 := k.2.2.2.2.2.1
  obtain ⟨kc1, kc2⟩ : 0 ≤ c ∧ c ≤ 14 := k.2.2.1
  obtain ⟨b1, b2, b3⟩ := fro_lt i.ff h0.1 h0.2
  have b4 := (fro_sp i.ff n).1
  have b5 := (fro_sp i.ff (n + 1)).2.1
  rcases (show z = 0 ∨ z = 1 ∨ z = 2 ∨ z = 3 ∨ z = 4 ∨ z = 5 by omega) with hc | hc | hc | hc | hc | hc
  · subst hc
    refine ax_aload_n f113_0 rfl ?_
    refine ax_getf f113_1 o rfl ?_
    refine ax_iload_n f113_4 rfl ?_
    refine ax_cvI (rest := []) f113_5 hH.2.1.1 rfl rfl rfl rfl rfl rfl rfl rfl (c_49 hH.2.1 i.ff i.b12 hn) ?_
    intro _ e_
    obtain rfl := e_.symm
    clear e_
    rw [b2i_t h0]
    refine ax_if_ne f113_8 rfl ⟨by omega, by omega⟩ (fun q8 => ?_) (fun q8 => absurd q8 (by omega))
    refine ax_aload_n f113_21 rfl ?_
    refine ax_getf f113_22 o rfl ?_
    refine ax_iload_n f113_25 rfl ?_
    refine ax_cvI (rest := []) f113_26 hH.2.1.1 rfl rfl rfl rfl rfl rfl rfl rfl (c_50 hH.2.1 i.ff h0.1 (by have := i.b12; omega)) ?_
    intro _ e_
    obtain rfl := e_.symm
    clear e_
    refine ax_istore_n (ls' := [_, _, _, _, _]) f113_29 (Nat.le_of_ble_eq_true rfl) rfl ?_
    refine ax_aload_n f113_30 rfl ?_
    refine ax_getf f113_31 o rfl ?_
    refine ax_iload_n f113_34 rfl ?_
    refine ax_iconst f113_35 ?_
    refine ax_iadd f113_36 ?_
    refine ax_cvI (rest := []) f113_37 hH.2.1.1 rfl rfl rfl rfl rfl rfl rfl rfl (c_50 hH.2.1 i.ff (by omega) (by have := i.b12; omega)) ?_
    intro _ e_
    obtain rfl := e_.symm
    clear e_
    refine ax_istore (ls' := [_, _, _, _, _]) f113_40 (Nat.le_of_ble_eq_true rfl) rfl ?_
    refine ax_iload_n f113_42 rfl ?_
    refine ax_tswI f113_43 ⟨by omega, by omega⟩ (by omega) (by omega) rfl rfl ?_
    refine ax_iload_n f113_80 rfl ?_
    refine ax_ireturn f113_81 rfl rfl ?_
    exact ⟨rI_of (rfl), a, fr_rf⟩
  · subst hc
    refine ax_aload_n f113_0 rfl ?_
    refine ax_getf f113_1 o rfl ?_
    refine ax_iload_n f113_4 rfl ?_
    refine ax_cvI (rest := []) f113_5 hH.2.1.1 rfl rfl rfl rfl rfl rfl rfl rfl (c_49 hH.2.1 i.ff i.b12 hn) ?_
    intro _ e_
    obtain rfl := e_.symm
    clear e_
    rw [b2i_t h0]
    refine ax_if_ne f113_8 rfl ⟨by omega, by omega⟩ (fun q8 => ?_) (fun q8 => absurd q8 (by omega))
    refine ax_aload_n f113_21 rfl ?_
    refine ax_getf f113_22 o rfl ?_
    refine ax_iload_n f113_25 rfl ?_
    refine ax_cvI (rest := []) f113_26 hH.2.1.1 rfl rfl rfl rfl rfl rfl rfl rfl (c_50 hH.2.1 i.ff h0.1 (by have := i.b12; omega)) ?_
    intro _ e_
    obtain rfl := e_.symm
    clear e_
    refine ax_istore_n (ls' := [_, _, _, _, _]) f113_29 (Nat.le_of_ble_eq_true rfl) rfl ?_
    refine ax_aload_n f113_30 rfl ?_
    refine ax_getf f113_31 o rfl ?_
    refine ax_iload_n f113_34 rfl ?_
    refine ax_iconst f113_35 ?_
    refine ax_iadd f113_36 ?_
    refine ax_cvI (rest := []) f113_37 hH.2.1.1 rfl rfl rfl rfl rfl rfl rfl rfl (c_50 hH.2.1 i.ff (by omega) (by have := i.b12; omega)) ?_
    intro _ e_
    obtain rfl := e_.symm
    clear e_
    refine ax_istore (ls' := [_, _, _, _, _]) f113_40 (Nat.le_of_ble_eq_true rfl) rfl ?_
    refine ax_iload_n f113_42 rfl ?_
    refine ax_tswI f113_43 ⟨by omega, by omega⟩ (by omega) (by omega) rfl rfl ?_
    refine ax_iload f113_82 rfl ?_
    refine ax_iload_n f113_84 rfl ?_
    refine ax_isub f113_85 ?_
    refine ax_ireturn f113_86 rfl rfl ?_
    exact ⟨rI_of (rfl), a, fr_rf⟩
  · subst hc
    refine ax_aload_n f113_0 rfl ?_
    refine ax_getf f113_1 o rfl ?_
    refine ax_iload_n f113_4 rfl ?_
    refine ax_cvI (rest := []) f113_5 hH.2.1.1 rfl rfl rfl rfl rfl rfl rfl rfl (c_49 hH.2.1 i.ff i.b12 hn) ?_
    intro _ e_
    obtain rfl := e_.symm
    clear e_
    rw [b2i_t h0]
    refine ax_if_ne f113_8 rfl ⟨by omega, by omega⟩ (fun q8 => ?_) (fun q8 => absurd q8 (by omega))
    refine ax_aload_n f113_21 rfl ?_
    refine ax_getf f113_22 o rfl ?_
    refine ax_iload_n f113_25 rfl ?_
    refine ax_cvI (rest := []) f113_26 hH.2.1.1 rfl rfl rfl rfl rfl rfl rfl rfl (c_50 hH.2.1 i.ff h0.1 (by have := i.b12; omega)) ?_
    intro _ e_
    obtain rfl := e_.symm
    clear e_
    refine ax_istore_n (ls' := [_, _, _, _, _]) f113_29 (Nat.le_of_ble_eq_true rfl) rfl ?_
    refine ax_aload_n f113_30 rfl ?_
    refine ax_getf f113_31 o rfl ?_
    refine ax_iload_n f113_34 rfl ?_
    refine ax_iconst f113_35 ?_
    refine ax_iadd f113_36 ?_
    refine ax_cvI (rest := []) f113_37 hH.2.1.1 rfl rfl rfl rfl rfl rfl rfl rfl (c_50 hH.2.1 i.ff (by omega) (by have := i.b12; omega)) ?_
    intro _ e_
    obtain rfl := e_.symm
    clear e_
    refine ax_istore (ls' := [_, _, _, _, _]) f113_40 (Nat.le_of_ble_eq_true rfl) rfl ?_
    refine ax_iload_n f113_42 rfl ?_
    refine ax_tswI f113_43 ⟨by omega, by omega⟩ (by omega) (by omega) rfl rfl ?_
    refine ax_aload_n f113_87 rfl ?_
    refine ax_getf f113_88 o rfl ?_
    refine ax_iload_n f113_91 rfl ?_
    refine ax_iload f113_92 rfl ?_
    refine ax_cvI (rest := []) f113_94 hH.2.1.1 rfl rfl rfl rfl rfl rfl rfl rfl (c_52 hH.2.1 b4 (by omega) b5) ?_
    intro _ e_
    obtain rfl := e_.symm
    clear e_
    refine ax_ireturn f113_97 rfl rfl ?_
    exact ⟨rI_of (rfl), a, fr_rf⟩
  · subst hc
    refine ax_aload_n f113_0 rfl ?_
    refine ax_getf f113_1 o rfl ?_
    refine ax_iload_n f113_4 rfl ?_
    refine ax_cvI (rest := []) f113_5 hH.2.1.1 rfl rfl rfl rfl rfl rfl rfl rfl (c_49 hH.2.1 i.ff i.b12 hn) ?_
    intro _ e_
    obtain rfl := e_.symm
    clear e_
    rw [b2i_t h0]
    refine ax_if_ne f113_8 rfl ⟨by omega, by omega⟩ (fun q8 => ?_) (fun q8 => absurd q8 (by omega))
    refine ax_aload_n f113_21 rfl ?_
    refine ax_getf f113_22 o rfl ?_
    refine ax_iload_n f113_25 rfl ?_
    refine ax_cvI (rest := []) f113_26 hH.2.1.1 rfl rfl rfl rfl rfl rfl rfl rfl (c_50 hH.2.1 i.ff h0.1 (by have := i.b12; omega)) ?_
    intro _ e_
    obtain rfl := e_.symm
    clear e_
    refine ax_istore_n (ls' := [_, _, _, _, _]) f113_29 (Nat.le_of_ble_eq_true rfl) rfl ?_
    refine ax_aload_n f113_30 rfl ?_
    refine ax_getf f113_31 o rfl ?_
    refine ax_iload_n f113_34 rfl ?_
    refine ax_iconst f113_35 ?_
    refine ax_iadd f113_36 ?_
    refine ax_cvI (rest := []) f113_37 hH.2.1.1 rfl rfl rfl rfl rfl rfl rfl rfl (c_50 hH.2.1 i.ff (by omega) (by have := i.b12; omega)) ?_
    intro _ e_
    obtain rfl := e_.symm
    clear e_
    refine ax_istore (ls' := [_, _, _, _, _]) f113_40 (Nat.le_of_ble_eq_true rfl) rfl ?_
    refine ax_iload_n f113_42 rfl ?_
    refine ax_tswI f113_43 ⟨by omega, by omega⟩ (by omega) (by omega) rfl rfl ?_
    refine ax_aload_n f113_98 rfl ?_
    refine ax_getf f113_99 o rfl ?_
    refine ax_iload_n f113_102 rfl ?_
    refine ax_iload f113_103 rfl ?_
    refine ax_cvI (rest := []) f113_105 hH.2.1.1 rfl rfl rfl rfl rfl rfl rfl rfl (c_53 hH.2.1 i.1.2.1 b4 (by omega) b5) ?_
    intro _ e_
    obtain rfl := e_.symm
    clear e_
    refine ax_ireturn f113_108 rfl rfl ?_
    exact ⟨rI_of (rfl), a, fr_rf⟩
  · subst hc
    refine ax_aload_n f113_0 rfl ?_
    refine ax_getf f113_1 o rfl ?_
    refine ax_iload_n f113_4 rfl ?_
    refine ax_cvI (rest := []) f113_5 hH.2.1.1 rfl rfl rfl rfl rfl rfl rfl rfl (c_49 hH.2.1 i.ff i.b12 hn) ?_
    intro _ e_
    obtain rfl := e_.symm
    clear e_
    rw [b2i_t h0]
    refine ax_if_ne f113_8 rfl ⟨by omega, by omega⟩ (fun q8 => ?_) (fun q8 => absurd q8 (by omega))
    refine ax_aload_n f113_21 rfl ?_
    refine ax_getf f113_22 o rfl ?_
    refine ax_iload_n f113_25 rfl ?_
    refine ax_cvI (rest := []) f113_26 hH.2.1.1 rfl rfl rfl rfl rfl rfl rfl rfl (c_50 hH.2.1 i.ff h0.1 (by have := i.b12; omega)) ?_
    intro _ e_
    obtain rfl := e_.symm
    clear e_
    refine ax_istore_n (ls' := [_, _, _, _, _]) f113_29 (Nat.le_of_ble_eq_true rfl) rfl ?_
    refine ax_aload_n f113_30 rfl ?_
    refine ax_getf f113_31 o rfl ?_
    refine ax_iload_n f113_34 rfl ?_
    refine ax_iconst f113_35 ?_
    refine ax_iadd f113_36 ?_
    refine ax_cvI (rest := []) f113_37 hH.2.1.1 rfl rfl rfl rfl rfl rfl rfl rfl (c_50 hH.2.1 i.ff (by omega) (by have := i.b12; omega)) ?_
    intro _ e_
    obtain rfl := e_.symm
    clear e_
    refine ax_istore (ls' := [_, _, _, _, _]) f113_40 (Nat.le_of_ble_eq_true rfl) rfl ?_
    refine ax_iload_n f113_42 rfl ?_
    refine ax_tswI f113_43 ⟨by omega, by omega⟩ (by omega) (by omega) rfl rfl ?_
    refine ax_aload_n f113_109 rfl ?_
    refine ax_getf f113_110 o rfl ?_
    refine ax_iload_n f113_113 rfl ?_
    refine ax_cvI (rest := []) f113_114 hH.2.1.1 rfl rfl rfl rfl rfl rfl rfl rfl (c_46 hH.2.1 h0.1 (by have := i.b12; omega)) ?_
    intro _ e_
    obtain rfl := e_.symm
    clear e_
    refine ax_ireturn f113_117 rfl rfl ?_
    exact ⟨rI_of (rfl), a, fr_rf⟩
  · subst hc
    have i192 := i.td
    refine ax_aload_n f113_0 rfl ?_
    refine ax_getf f113_1 o rfl ?_
    refine ax_iload_n f113_4 rfl ?_
    refine ax_cvI (rest := []) f113_5 hH.2.1.1 rfl rfl rfl rfl rfl rfl rfl rfl (c_49 hH.2.1 i.ff i.b12 hn) ?_
    intro _ e_
    obtain rfl := e_.symm
    clear e_
    rw [b2i_t h0]
    refine ax_if_ne f113_8 rfl ⟨by omega, by omega⟩ (fun q8 => ?_) (fun q8 => absurd q8 (by omega))
    refine ax_aload_n f113_21 rfl ?_
    refine ax_getf f113_22 o rfl ?_
    refine ax_iload_n f113_25 rfl ?_
    refine ax_cvI (rest := []) f113_26 hH.2.1.1 rfl rfl rfl rfl rfl rfl rfl rfl (c_50 hH.2.1 i.ff h0.1 (by have := i.b12; omega)) ?_
    intro _ e_
    obtain rfl := e_.symm
    clear e_
    refine ax_istore_n (ls' := [_, _, _, _, _]) f113_29 (Nat.le_of_ble_eq_true rfl) rfl ?_
    refine ax_aload_n f113_30 rfl ?_
    refine ax_getf f113_31 o rfl ?_
    refine ax_iload_n f113_34 rfl ?_
    refine ax_iconst f113_35 ?_
    refine ax_iadd f113_36 ?_
    refine ax_cvI (rest := []) f113_37 hH.2.1.1 rfl rfl rfl rfl rfl rfl rfl rfl (c_50 hH.2.1 i.ff (by omega) (by have := i.b12; omega)) ?_
    intro _ e_
    obtain rfl := e_.symm
    clear e_
    refine ax_istore (ls' := [_, _, _, _, _]) f113_40 (Nat.le_of_ble_eq_true rfl) rfl ?_
    refine ax_iload_n f113_42 rfl ?_
    refine ax_tswI f113_43 ⟨by omega, by omega⟩ (by omega) (by omega) rfl rfl ?_
    refine ax_aload_n f113_118 rfl ?_
    refine ax_getf f113_119 o rfl ?_
    refine ax_getf f113_122 hH.2.1.1 rfl ?_
    refine ax_if_ne f113_125 rfl ⟨by omega, by omega⟩ (fun q125 => ?_) (fun q125 => absurd q125 (by omega))
    refine ax_aload_n f113_138 rfl ?_
    refine ax_getf f113_139 o rfl ?_
    refine ax_iload_n f113_142 rfl ?_
    refine ax_cvI (rest := []) f113_143 hH.2.1.1 rfl rfl rfl rfl rfl rfl rfl rfl (c_47 hH.2.1 h0.1 (by have := i.b12; omega)) ?_
    intro _ e_
    obtain rfl := e_.symm
    clear e_
    refine ax_ireturn f113_146 rfl rfl ?_
    exact ⟨rI_of (rfl), a, fr_rf⟩
theorem k_114_1 {h : am_H} {R : Int → Int} {S : Int → Int → Int} {c : Int} {G : Nat → Int → Int} {b : Int → Int} {T : Int → Int} {L : Int} (a : Cls h (R, S, c, G, b, T, L)) (k : okS (R, S, c, G, b, T, L)) {r0 v : Int} (hr : inI r0) (h0 : ¬ (0 ≤ r0 ∧ r0 < 48)) : am_X 3 114 0 (am_ent 114 [.ref 0, .int (iI r0), .int (iI v)]) [] h (Cthr h IOB (R, S, c, G, b, T, L)) := by
  show am_X 3 114 0 [.ref 0, .int (iI r0), .int (iI v), am_u] [] h _
  obtain ⟨o, hH, ⟨R2, hH2⟩, hF, hS, hP, hU, hHi, hSl, pos, le, fi, se, hT⟩ := id a
  have hH : Herd h 1 R := hH
  have hHi : Hist h 33 S c := hHi
  have hSl : Slot h 105 G b := hSl
  have hT : Tx h 118 T L pos le fi se := hT
  have i : inv R := k.1
  obtain ⟨nx, M, f, ho, he, hoa, hm, hrg⟩ := id hHi
  obtain ⟨kl1, kl2⟩ : 0 ≤ L ∧ L ≤ 120 := k.2.2.2.2.2.1
  obtain ⟨kc1, kc2⟩ : 0 ≤ c ∧ c ≤ 14 := k.2.2.1
  refine ax_iload_n f114_0 rfl ?_
  refine ax_csI (rest := []) f114_1 (Or.inl rfl) rfl rfl rfl rfl rfl rfl (c_134 hr) ?_
  intro _ e_
  obtain rfl := e_.symm
  clear e_
  rw [b2i_f h0]
  refine ax_if_ne f114_4 rfl ⟨by omega, by omega⟩ (fun q4 => absurd q4 (by omega)) (fun q4 => ?_)
  refine ax_throw f114_7 rfl ?_
  exact ⟨rfl, _, rfl, a, fr_rf⟩
theorem k_114_2 {h : am_H} {R : Int → Int} {S : Int → Int → Int} {c : Int} {G : Nat → Int → Int} {b : Int → Int} {T : Int → Int} {L : Int} (a : Cls h (R, S, c, G, b, T, L)) (k : okS (R, S, c, G, b, T, L)) {r0 v : Int} (hr : inI r0) (hv : inI v) (h0 : 0 ≤ r0 ∧ r0 < 48) (h1 : ¬ (1 ≤ v ∧ v ≤ 99)) : am_X 3 114 0 (am_ent 114 [.ref 0, .int (iI r0), .int (iI v)]) [] h (Cthr h IAE (R, S, c, G, b, T, L)) := by
  show am_X 3 114 0 [.ref 0, .int (iI r0), .int (iI v), am_u] [] h _
  obtain ⟨o, hH, ⟨R2, hH2⟩, hF, hS, hP, hU, hHi, hSl, pos, le, fi, se, hT⟩ := id a
  have hH : Herd h 1 R := hH
  have hHi : Hist h 33 S c := hHi
  have hSl : Slot h 105 G b := hSl
  have hT : Tx h 118 T L pos le fi se := hT
  have i : inv R := k.1
  obtain ⟨nx, M, f, ho, he, hoa, hm, hrg⟩ := id hHi
  obtain ⟨kl1, kl2⟩ : 0 ≤ L ∧ L ≤ 120 := k.2.2.2.2.2.1
  obtain ⟨kc1, kc2⟩ : 0 ≤ c ∧ c ≤ 14 := k.2.2.1
  refine ax_iload_n f114_0 rfl ?_
  refine ax_csI (rest := []) f114_1 (Or.inl rfl) rfl rfl rfl rfl rfl rfl (c_134 hr) ?_
  intro _ e_
  obtain rfl := e_.symm
  clear e_
  rw [b2i_t h0]
  refine ax_if_ne f114_4 rfl ⟨by omega, by omega⟩ (fun q4 => ?_) (fun q4 => absurd q4 (by omega))
  refine ax_iload_n f114_17 rfl ?_
  refine ax_csI (rest := []) f114_18 (Or.inl rfl) rfl rfl rfl rfl rfl rfl (c_136 hv) ?_
  intro _ e_
  obtain rfl := e_.symm
  clear e_
  rw [b2i_f h1]
  refine ax_if_ne f114_21 rfl ⟨by omega, by omega⟩ (fun q21 => absurd q21 (by omega)) (fun q21 => ?_)
  refine ax_throw f114_24 rfl ?_
  exact ⟨rfl, _, rfl, a, fr_rf⟩
theorem k_114 {h : am_H} {R : Int → Int} {S : Int → Int → Int} {c : Int} {G : Nat → Int → Int} {b : Int → Int} {T : Int → Int} {L : Int} (a : Cls h (R, S, c, G, b, T, L)) (k : okS (R, S, c, G, b, T, L)) {r0 v : Int} (hr : inI r0) (hv : inI v) (h0 : 0 ≤ r0 ∧ r0 < 48) (h1 : 1 ≤ v ∧ v ≤ 99) : am_X 3 114 0 (am_ent 114 [.ref 0, .int (iI r0), .int (iI v)]) [] h (Cout h (R r0) (uZ R r0 v, rmS S c R, min (c + 1) 14, G, b, T, L)) := by
  show am_X 3 114 0 [.ref 0, .int (iI r0), .int (iI v), am_u] [] h _
  obtain ⟨o, hH, ⟨R2, hH2⟩, hF, hS, hP, hU, hHi, hSl, pos, le, fi, se, hT⟩ := id a
  have hH : Herd h 1 R := hH
  have hHi : Hist h 33 S c := hHi
  have hSl : Slot h 105 G b := hSl
  have hT : Tx h 118 T L pos le fi se := hT
  have i : inv R := k.1
  obtain ⟨nx, M, f, ho, he, hoa, hm, hrg⟩ := id hHi
  obtain ⟨kl1, kl2⟩ : 0 ≤ L ∧ L ≤ 120 := k.2.2.2.2.2.1
  obtain ⟨kc1, kc2⟩ : 0 ≤ c ∧ c ≤ 14 := k.2.2.1
  refine ax_iload_n f114_0 rfl ?_
  refine ax_csI (rest := []) f114_1 (Or.inl rfl) rfl rfl rfl rfl rfl rfl (c_134 hr) ?_
  intro _ e_
  obtain rfl := e_.symm
  clear e_
  rw [b2i_t h0]
  refine ax_if_ne f114_4 rfl ⟨by omega, by omega⟩ (fun q4 => ?_) (fun q4 => absurd q4 (by omega))
  refine ax_iload_n f114_17 rfl ?_
  refine ax_csI (rest := []) f114_18 (Or.inl rfl) rfl rfl rfl rfl rfl rfl (c_136 hv) ?_
  intro _ e_
  obtain rfl := e_.symm
  clear e_
  rw [b2i_t h1]
  refine ax_if_ne f114_21 rfl ⟨by omega, by omega⟩ (fun q21 => ?_) (fun q21 => absurd q21 (by omega))
  refine ax_aload_n f114_34 rfl ?_
  refine ax_getf f114_35 o rfl ?_
  refine ax_aload_n f114_38 rfl ?_
  refine ax_getf f114_39 o rfl ?_
  refine ax_cvV (rest := []) f114_42 ho rfl rfl rfl rfl rfl rfl rfl rfl (c_38 hHi hH.2.1 (by omega) i.td) ?_
  rintro h9 ⟨H9, f9⟩
  have o9 := f9.at (q := 0) (by unfold HiS; omega) o
  have hH9 := hH.mv f9 (fun x x1 x2 => by unfold HiS; omega)
  refine ax_aload_n f114_45 rfl ?_
  refine ax_getf f114_46 o9 rfl ?_
  refine ax_iload_n f114_49 rfl ?_
  refine ax_cvI (rest := []) f114_50 hH9.2.1.1 rfl rfl rfl rfl rfl rfl rfl rfl (c_43 hH9.2.1 h0.1 h0.2) ?_
  intro _ e_
  obtain rfl := e_.symm
  clear e_
  refine ax_istore_n (ls' := [_, _, _, _]) f114_53 (Nat.le_of_ble_eq_true rfl) rfl ?_
  refine ax_aload_n f114_54 rfl ?_
  refine ax_getf f114_55 o9 rfl ?_
  refine ax_iload_n f114_58 rfl ?_
  refine ax_iload_n f114_59 rfl ?_
  refine ax_cvV (rest := []) f114_60 hH9.2.1.1 rfl rfl rfl rfl rfl rfl rfl rfl (c_58 hH9.2.1 h0.1 h0.2) ?_
  rintro h8 ⟨m8, f8⟩
  have o8 := f8.at (q := 0) (by unfold MS; omega) o9
  refine ax_iload_n f114_63 rfl ?_
  refine ax_ireturn f114_64 rfl rfl ?_
  obtain ⟨g1, g2⟩ := Cls_hm a f9 H9 (MS_HS f8) (hH9.me m8 f8)
  exact ⟨rI_of rfl, g1, g2⟩
theorem k_115_1 {h : am_H} {R : Int → Int} {S : Int → Int → Int} {c : Int} {G : Nat → Int → Int} {b : Int → Int} {T : Int → Int} {L : Int} (a : Cls h (R, S, c, G, b, T, L)) (k : okS (R, S, c, G, b, T, L)) {r0 y : Int} (hr : inI r0) (h0 : ¬ (0 ≤ r0 ∧ r0 < 48)) : am_X 3 115 0 (am_ent 115 [.ref 0, .int (iI r0), .int (iI y)]) [] h (Cthr h IOB (R, S, c, G, b, T, L)) := by
  show am_X 3 115 0 [.ref 0, .int (iI r0), .int (iI y)] [] h _
  obtain ⟨o, hH, ⟨R2, hH2⟩, hF, hS, hP, hU, hHi, hSl, pos, le, fi, se, hT⟩ := id a
  have hH : Herd h 1 R := hH
  have hHi : Hist h 33 S c := hHi
  have hSl : Slot h 105 G b := hSl
  have hT : Tx h 118 T L pos le fi se := hT
  have i : inv R := k.1
  obtain ⟨nx, M, f, ho, he, hoa, hm, hrg⟩ := id hHi
  obtain ⟨kl1, kl2⟩ : 0 ≤ L ∧ L ≤ 120 := k.2.2.2.2.2.1
  obtain ⟨kc1, kc2⟩ : 0 ≤ c ∧ c ≤ 14 := k.2.2.1
  refine ax_iload_n f115_0 rfl ?_
  refine ax_csI (rest := []) f115_1 (Or.inl rfl) rfl rfl rfl rfl rfl rfl (c_134 hr) ?_
  intro _ e_
  obtain rfl := e_.symm
  clear e_
  rw [b2i_f h0]
  refine ax_if_ne f115_4 rfl ⟨by omega, by omega⟩ (fun q4 => absurd q4 (by omega)) (fun q4 => ?_)
  refine ax_throw f115_7 rfl ?_
  exact ⟨rfl, _, rfl, a, fr_rf⟩
theorem k_115 {h : am_H} {R : Int → Int} {S : Int → Int → Int} {c : Int} {G : Nat → Int → Int} {b : Int → Int} {T : Int → Int} {L : Int} (a : Cls h (R, S, c, G, b, T, L)) (k : okS (R, S, c, G, b, T, L)) {r0 y : Int} (hr : inI r0) (hy : y = 0 ∨ y = 1) (h0 : 0 ≤ r0 ∧ r0 < 48) : am_X 3 115 0 (am_ent 115 [.ref 0, .int (iI r0), .int (iI y)]) [] h (Cout h (sm (fun j => uZ R (48 + r0) y (48 + j)) 0 48) (uZ R (48 + r0) y, rmS S c R, min (c + 1) 14, G, b, T, L)) := by
  show am_X 3 115 0 [.ref 0, .int (iI r0), .int (iI y)] [] h _
  obtain ⟨o, hH, ⟨R2, hH2⟩, hF, hS, hP, hU, hHi, hSl, pos, le, fi, se, hT⟩ := id a
  have hH : Herd h 1 R := hH
  have hHi : Hist h 33 S c := hHi
  have hSl : Slot h 105 G b := hSl
  have hT : Tx h 118 T L pos le fi se := hT
  have i : inv R := k.1
  obtain ⟨nx, M, f, ho, he, hoa, hm, hrg⟩ := id hHi
  obtain ⟨kl1, kl2⟩ : 0 ≤ L ∧ L ≤ 120 := k.2.2.2.2.2.1
  obtain ⟨kc1, kc2⟩ : 0 ≤ c ∧ c ≤ 14 := k.2.2.1
  have i2 := inv_aw i h0.1 h0.2 hy
  refine ax_iload_n f115_0 rfl ?_
  refine ax_csI (rest := []) f115_1 (Or.inl rfl) rfl rfl rfl rfl rfl rfl (c_134 hr) ?_
  intro _ e_
  obtain rfl := e_.symm
  clear e_
  rw [b2i_t h0]
  refine ax_if_ne f115_4 rfl ⟨by omega, by omega⟩ (fun q4 => ?_) (fun q4 => absurd q4 (by omega))
  refine ax_aload_n f115_17 rfl ?_
  refine ax_getf f115_18 o rfl ?_
  refine ax_aload_n f115_21 rfl ?_
  refine ax_getf f115_22 o rfl ?_
  refine ax_cvV (rest := []) f115_25 ho rfl rfl rfl rfl rfl rfl rfl rfl (c_38 hHi hH.2.1 (by omega) i.td) ?_
  rintro h9 ⟨H9, f9⟩
  have o9 := f9.at (q := 0) (by unfold HiS; omega) o
  have hH9 := hH.mv f9 (fun x x1 x2 => by unfold HiS; omega)
  refine ax_aload_n f115_28 rfl ?_
  refine ax_getf f115_29 o9 rfl ?_
  refine ax_iload_n f115_32 rfl ?_
  refine ax_iload_n f115_33 rfl ?_
  refine ax_cvV (rest := []) f115_34 hH9.2.1.1 rfl rfl rfl rfl rfl rfl rfl rfl (c_59 hH9.2.1 h0.1 h0.2 hy) ?_
  rintro h8 ⟨m8, f8⟩
  have o8 := f8.at (q := 0) (by unfold MS; omega) o9
  refine ax_aload_n f115_37 rfl ?_
  refine ax_getf f115_38 o8 rfl ?_
  refine ax_getf f115_41 m8.1 rfl ?_
  refine ax_csI (rest := []) f115_44 (Or.inl rfl) rfl rfl rfl rfl rfl rfl (c_bit01 (fun j j1 j2 => i2.aw j1 j2)) ?_
  intro _ e_
  obtain rfl := e_.symm
  clear e_
  refine ax_ireturn f115_47 rfl rfl ?_
  obtain ⟨g1, g2⟩ := Cls_hm a f9 H9 (MS_HS f8) (hH9.me m8 f8)
  exact ⟨rI_of rfl, g1, g2⟩
theorem k_116_1 {h : am_H} {R : Int → Int} {S : Int → Int → Int} {c : Int} {G : Nat → Int → Int} {b : Int → Int} {T : Int → Int} {L : Int} (a : Cls h (R, S, c, G, b, T, L)) (k : okS (R, S, c, G, b, T, L)) {r0 y : Int} (hr : inI r0) (h0 : ¬ (1 ≤ r0 ∧ r0 < 48)) : am_X 3 116 0 (am_ent 116 [.ref 0, .int (iI r0), .int (iI y)]) [] h (Cthr h IOB (R, S, c, G, b, T, L)) := by
  show am_X 3 116 0 [.ref 0, .int (iI r0), .int (iI y)] [] h _
  obtain ⟨o, hH, ⟨R2, hH2⟩, hF, hS, hP, hU, hHi, hSl, pos, le, fi, se, hT⟩ := id a
  have hH : Herd h 1 R := hH
  have hHi : Hist h 33 S c := hHi
  have hSl : Slot h 105 G b := hSl
  have hT : Tx h 118 T L pos le fi se := hT
  have i : inv R := k.1
  obtain ⟨nx, M, f, ho, he, hoa, hm, hrg⟩ := id hHi
  obtain ⟨kl1, kl2⟩ : 0 ≤ L ∧ L ≤ 120 := k.2.2.2.2.2.1
  obtain ⟨kc1, kc2⟩ : 0 ≤ c ∧ c ≤ 14 := k.2.2.1
  refine ax_iload_n f116_0 rfl ?_
  refine ax_csI (rest := []) f116_1 (Or.inl rfl) rfl rfl rfl rfl rfl rfl (c_135 hr) ?_
  intro _ e_
  obtain rfl := e_.symm
  clear e_
  rw [b2i_f h0]
  refine ax_if_ne f116_4 rfl ⟨by omega, by omega⟩ (fun q4 => absurd q4 (by omega)) (fun q4 => ?_)
  refine ax_throw f116_7 rfl ?_
  exact ⟨rfl, _, rfl, a, fr_rf⟩
theorem k_116_2 {h : am_H} {R : Int → Int} {S : Int → Int → Int} {c : Int} {G : Nat → Int → Int} {b : Int → Int} {T : Int → Int} {L : Int} (a : Cls h (R, S, c, G, b, T, L)) (k : okS (R, S, c, G, b, T, L)) {r0 y : Int} (hr : inI r0) (hy : y = 0 ∨ y = 1) (h0 : 1 ≤ r0 ∧ r0 < 48) (h1 : ¬ (y = 0 ∨ R (144 + r0) = 1 ∨ blk R ≤ 11)) : am_X 3 116 0 (am_ent 116 [.ref 0, .int (iI r0), .int (iI y)]) [] h (Cthr h ISE (R, S, c, G, b, T, L)) := by
  show am_X 3 116 0 [.ref 0, .int (iI r0), .int (iI y)] [] h _
  obtain ⟨o, hH, ⟨R2, hH2⟩, hF, hS, hP, hU, hHi, hSl, pos, le, fi, se, hT⟩ := id a
  have hH : Herd h 1 R := hH
  have hHi : Hist h 33 S c := hHi
  have hSl : Slot h 105 G b := hSl
  have hT : Tx h 118 T L pos le fi se := hT
  have i : inv R := k.1
  obtain ⟨nx, M, f, ho, he, hoa, hm, hrg⟩ := id hHi
  obtain ⟨kl1, kl2⟩ : 0 ≤ L ∧ L ≤ 120 := k.2.2.2.2.2.1
  obtain ⟨kc1, kc2⟩ : 0 ≤ c ∧ c ≤ 14 := k.2.2.1
  refine ax_iload_n f116_0 rfl ?_
  refine ax_csI (rest := []) f116_1 (Or.inl rfl) rfl rfl rfl rfl rfl rfl (c_135 hr) ?_
  intro _ e_
  obtain rfl := e_.symm
  clear e_
  rw [b2i_t h0]
  refine ax_if_ne f116_4 rfl ⟨by omega, by omega⟩ (fun q4 => ?_) (fun q4 => absurd q4 (by omega))
  refine ax_aload_n f116_17 rfl ?_
  refine ax_getf f116_18 o rfl ?_
  refine ax_iload_n f116_21 rfl ?_
  refine ax_iload_n f116_22 rfl ?_
  refine ax_cvI (rest := []) f116_23 hH.2.1.1 rfl rfl rfl rfl rfl rfl rfl rfl (c_57 hH.2.1 i.ff i.b12 hr hy) ?_
  intro _ e_
  obtain rfl := e_.symm
  clear e_
  rw [b2i_f (fun x => h1 x.2)]
  refine ax_if_ne f116_26 rfl ⟨by omega, by omega⟩ (fun q26 => absurd q26 (by omega)) (fun q26 => ?_)
  refine ax_throw f116_29 rfl ?_
  exact ⟨rfl, _, rfl, a, fr_rf⟩
theorem k_116 {h : am_H} {R : Int → Int} {S : Int → Int → Int} {c : Int} {G : Nat → Int → Int} {b : Int → Int} {T : Int → Int} {L : Int} (a : Cls h (R, S, c, G, b, T, L)) (k : okS (R, S, c, G, b, T, L)) {r0 y : Int} (hr : inI r0) (hy : y = 0 ∨ y = 1) (h0 : 1 ≤ r0 ∧ r0 < 48) (h1 : y = 0 ∨ R (144 + r0) = 1 ∨ blk R ≤ 11) : am_X 3 116 0 (am_ent 116 [.ref 0, .int (iI r0), .int (iI y)]) [] h (Cout h (blk (sfe R r0 y)) (sfe R r0 y, rmS S c R, min (c + 1) 14, G, b, T, L)) := by
  show am_X 3 116 0 [.ref 0, .int (iI r0), .int (iI y)] [] h _
  obtain ⟨o, hH, ⟨R2, hH2⟩, hF, hS, hP, hU, hHi, hSl, pos, le, fi, se, hT⟩ := id a
  have hH : Herd h 1 R := hH
  have hHi : Hist h 33 S c := hHi
  have hSl : Slot h 105 G b := hSl
  have hT : Tx h 118 T L pos le fi se := hT
  have i : inv R := k.1
  obtain ⟨nx, M, f, ho, he, hoa, hm, hrg⟩ := id hHi
  obtain ⟨kl1, kl2⟩ : 0 ≤ L ∧ L ≤ 120 := k.2.2.2.2.2.1
  obtain ⟨kc1, kc2⟩ : 0 ≤ c ∧ c ≤ 14 := k.2.2.1
  have i2 := inv_fe i h0.1 h0.2 hy h1
  refine ax_iload_n f116_0 rfl ?_
  refine ax_csI (rest := []) f116_1 (Or.inl rfl) rfl rfl rfl rfl rfl rfl (c_135 hr) ?_
  intro _ e_
  obtain rfl := e_.symm
  clear e_
  rw [b2i_t h0]
  refine ax_if_ne f116_4 rfl ⟨by omega, by omega⟩ (fun q4 => ?_) (fun q4 => absurd q4 (by omega))
  refine ax_aload_n f116_17 rfl ?_
  refine ax_getf f116_18 o rfl ?_
  refine ax_iload_n f116_21 rfl ?_
  refine ax_iload_n f116_22 rfl ?_
  refine ax_cvI (rest := []) f116_23 hH.2.1.1 rfl rfl rfl rfl rfl rfl rfl rfl (c_57 hH.2.1 i.ff i.b12 hr hy) ?_
  intro _ e_
  obtain rfl := e_.symm
  clear e_
  rw [b2i_t ⟨h0, h1⟩]
  refine ax_if_ne f116_26 rfl ⟨by omega, by omega⟩ (fun q26 => ?_) (fun q26 => absurd q26 (by omega))
  refine ax_aload_n f116_39 rfl ?_
  refine ax_getf f116_40 o rfl ?_
  refine ax_aload_n f116_43 rfl ?_
  refine ax_getf f116_44 o rfl ?_
  refine ax_cvV (rest := []) f116_47 ho rfl rfl rfl rfl rfl rfl rfl rfl (c_38 hHi hH.2.1 (by omega) i.td) ?_
  rintro h9 ⟨H9, f9⟩
  have o9 := f9.at (q := 0) (by unfold HiS; omega) o
  have hH9 := hH.mv f9 (fun x x1 x2 => by unfold HiS; omega)
  refine ax_aload_n f116_50 rfl ?_
  refine ax_getf f116_51 o9 rfl ?_
  refine ax_iload_n f116_54 rfl ?_
  refine ax_iload_n f116_55 rfl ?_
  refine ax_cvV (rest := []) f116_56 hH9.2.1.1 rfl rfl rfl rfl rfl rfl rfl rfl (c_61 hH9.2.1 i.ff (by omega) h0.2 hy) ?_
  rintro h8 ⟨m8, f8⟩
  have o8 := f8.at (q := 0) (by unfold MS; omega) o9
  refine ax_aload_n f116_59 rfl ?_
  refine ax_getf f116_60 o8 rfl ?_
  refine ax_cvI (rest := []) f116_63 m8.1 rfl rfl rfl rfl rfl rfl rfl rfl (c_48 m8 i2.ff) ?_
  intro _ e_
  obtain rfl := e_.symm
  clear e_
  refine ax_ireturn f116_66 rfl rfl ?_
  obtain ⟨g1, g2⟩ := Cls_hm a f9 H9 (MS_HS f8) (hH9.me m8 f8)
  exact ⟨rI_of rfl, g1, g2⟩
theorem k_117_1 {h : am_H} {R : Int → Int} {S : Int → Int → Int} {c : Int} {G : Nat → Int → Int} {b : Int → Int} {T : Int → Int} {L : Int} (a : Cls h (R, S, c, G, b, T, L)) (k : okS (R, S, c, G, b, T, L)) {n : Int} (hn : inI n) (h0 : ¬ (1 ≤ n ∧ n ≤ 11)) : am_X 4 117 0 (am_ent 117 [.ref 0, .int (iI n)]) [] h (Cthr h IAE (R, S, c, G, b, T, L)) := by
  show am_X 4 117 0 [.ref 0, .int (iI n)] [] h _
  obtain ⟨o, hH, ⟨R2, hH2⟩, hF, hS, hP, hU, hHi, hSl, pos, le, fi, se, hT⟩ := id a
  have hH : Herd h 1 R := hH
  have hHi : Hist h 33 S c := hHi
  have hSl : Slot h 105 G b := hSl
  have hT : Tx h 118 T L pos le fi se := hT
  have i : inv R := k.1
  obtain ⟨nx, M, f, ho, he, hoa, hm, hrg⟩ := id hHi
  obtain ⟨kl1, kl2⟩ : 0 ≤ L ∧ L ≤ 120 := k.2.2.2.2.2.1
  obtain ⟨kc1, kc2⟩ : 0 ≤ c ∧ c ≤ 14 := k.2.2.1
  refine ax_iload_n f117_0 rfl ?_
  refine ax_csI (rest := []) f117_1 (Or.inl rfl) rfl rfl rfl rfl rfl rfl (c_138 hn) ?_
  intro _ e_
  obtain rfl := e_.symm
  clear e_
  rw [b2i_f h0]
  refine ax_if_ne f117_4 rfl ⟨by omega, by omega⟩ (fun q4 => absurd q4 (by omega)) (fun q4 => ?_)
  refine ax_throw f117_7 rfl ?_
  exact ⟨rfl, _, rfl, a, fr_rf⟩
theorem k_117 {h : am_H} {R : Int → Int} {S : Int → Int → Int} {c : Int} {G : Nat → Int → Int} {b : Int → Int} {T : Int → Int} {L : Int} (a : Cls h (R, S, c, G, b, T, L)) (k : okS (R, S, c, G, b, T, L)) {n : Int} (hn : inI n) (h0 : 1 ≤ n ∧ n ≤ 11) : am_X 4 117 0 (am_ent 117 [.ref 0, .int (iI n)]) [] h (Cout h (blk (spr R n)) (spr R n, rmS S c R, min (c + 1) 14, G, b, T, L)) := by
  show am_X 4 117 0 [.ref 0, .int (iI n)] [] h _
  obtain ⟨o, hH, ⟨R2, hH2⟩, hF, hS, hP, hU, hHi, hSl, pos, le, fi, se, hT⟩ := id a
  have hH : Herd h 1 R := hH
  have hHi : Hist h 33 S c := hHi
  have hSl : Slot h 105 G b := hSl
  have hT : Tx h 118 T L pos le fi se := hT
  have i : inv R := k.1
  obtain ⟨nx, M, f, ho, he, hoa, hm, hrg⟩ := id hHi
  obtain ⟨kl1, kl2⟩ : 0 ≤ L ∧ L ≤ 120 := k.2.2.2.2.2.1
  obtain ⟨kc1, kc2⟩ : 0 ≤ c ∧ c ≤ 14 := k.2.2.1
  have i2 := inv_sp i h0.1 h0.2
  refine ax_iload_n f117_0 rfl ?_
  refine ax_csI (rest := []) f117_1 (Or.inl rfl) rfl rfl rfl rfl rfl rfl (c_138 hn) ?_
  intro _ e_
  obtain rfl := e_.symm
  clear e_
  rw [b2i_t h0]
  refine ax_if_ne f117_4 rfl ⟨by omega, by omega⟩ (fun q4 => ?_) (fun q4 => absurd q4 (by omega))
  refine ax_aload_n f117_18 rfl ?_
  refine ax_getf f117_19 o rfl ?_
  refine ax_aload_n f117_22 rfl ?_
  refine ax_getf f117_23 o rfl ?_
  refine ax_cvV (rest := []) f117_26 ho rfl rfl rfl rfl rfl rfl rfl rfl (c_38 hHi hH.2.1 (by omega) i.td) ?_
  rintro h9 ⟨H9, f9⟩
  have o9 := f9.at (q := 0) (by unfold HiS; omega) o
  have hH9 := hH.mv f9 (fun x x1 x2 => by unfold HiS; omega)
  refine ax_aload_n f117_29 rfl ?_
  refine ax_getf f117_30 o9 rfl ?_
  refine ax_aload_n f117_33 rfl ?_
  refine ax_getf f117_34 o9 rfl ?_
  refine ax_iload_n f117_37 rfl ?_
  refine ax_cvL (rest := [_]) f117_38 hH9.2.1.1 rfl rfl rfl rfl rfl rfl rfl rfl (c_68 hH9.2.1 i.1.1 (by omega) hn) ?_
  intro _ e_
  obtain rfl := e_.symm
  clear e_
  refine ax_cvV (rest := []) f117_41 hH9.2.1.1 rfl rfl rfl rfl rfl rfl rfl rfl (c_62 hH9.2.1) ?_
  rintro h8 ⟨m8, f8⟩
  have o8 := f8.at (q := 0) (by unfold MS; omega) o9
  refine ax_aload_n f117_44 rfl ?_
  refine ax_getf f117_45 o8 rfl ?_
  refine ax_cvI (rest := []) f117_48 m8.1 rfl rfl rfl rfl rfl rfl rfl rfl (c_48 (R := spr R n) m8 i2.ff) ?_
  intro _ e_
  obtain rfl := e_.symm
  clear e_
  refine ax_ireturn f117_51 rfl rfl ?_
  obtain ⟨g1, g2⟩ := Cls_hm a f9 H9 (MS_HS f8) (hH9.me m8 f8)
  exact ⟨rI_of rfl, g1, g2⟩
theorem k_118_1 {h : am_H} {R : Int → Int} {S : Int → Int → Int} {c : Int} {G : Nat → Int → Int} {b : Int → Int} {T : Int → Int} {L : Int} (a : Cls h (R, S, c, G, b, T, L)) (k : okS (R, S, c, G, b, T, L)) {n v : Int} (hn : inI n) (h0 : ¬ (0 ≤ n ∧ n < blk R)) : am_X 4 118 0 (am_ent 118 [.ref 0, .int (iI n), .int (iI v)]) [] h (Cthr h IOB (R, S, c, G, b, T, L)) := by
  show am_X 4 118 0 [.ref 0, .int (iI n), .int (iI v), am_u] [] h _
  obtain ⟨o, hH, ⟨R2, hH2⟩, hF, hS, hP, hU, hHi, hSl, pos, le, fi, se, hT⟩ := id a
  have hH : Herd h 1 R := hH
  have hHi : Hist h 33 S c := hHi
  have hSl : Slot h 105 G b := hSl
  have hT : Tx h 118 T L pos le fi se := hT
  have i : inv R := k.1
  obtain ⟨nx, M, f, ho, he, hoa, hm, hrg⟩ := id hHi
  obtain ⟨kl1, kl2⟩ : 0 ≤ L ∧ L ≤ 120 := k.2.2.2.2.2.1
  obtain ⟨kc1, kc2⟩ : 0 ≤ c ∧ c ≤ 14 := k.2.2.1
  refine ax_aload_n f118_0 rfl ?_
  refine ax_getf f118_1 o rfl ?_
  refine ax_iload_n f118_4 rfl ?_
  refine ax_cvI (rest := []) f118_5 hH.2.1.1 rfl rfl rfl rfl rfl rfl rfl rfl (c_49 hH.2.1 i.ff i.b12 hn) ?_
  intro _ e_
  obtain rfl := e_.symm
  clear e_
  rw [b2i_f h0]
  refine ax_if_ne f118_8 rfl ⟨by omega, by omega⟩ (fun q8 => absurd q8 (by omega)) (fun q8 => ?_)
  refine ax_throw f118_11 rfl ?_
  exact ⟨rfl, _, rfl, a, fr_rf⟩
theorem k_118_2 {h : am_H} {R : Int → Int} {S : Int → Int → Int} {c : Int} {G : Nat → Int → Int} {b : Int → Int} {T : Int → Int} {L : Int} (a : Cls h (R, S, c, G, b, T, L)) (k : okS (R, S, c, G, b, T, L)) {n v : Int} (hn : inI n) (hv : inI v) (h0 : 0 ≤ n ∧ n < blk R) (h1 : ¬ (-2 ≤ v ∧ v ≤ 2)) : am_X 4 118 0 (am_ent 118 [.ref 0, .int (iI n), .int (iI v)]) [] h (Cthr h IAE (R, S, c, G, b, T, L)) := by
  show am_X 4 118 0 [.ref 0, .int (iI n), .int (iI v), am_u] [] h _
  obtain ⟨o, hH, ⟨R2, hH2⟩, hF, hS, hP, hU, hHi, hSl, pos, le, fi, se, hT⟩ := id a
  have hH : Herd h 1 R := hH
  have hHi : Hist h 33 S c := hHi
  have hSl : Slot h 105 G b := hSl
  have hT : Tx h 118 T L pos le fi se := hT
  have i : inv R := k.1
  obtain ⟨nx, M, f, ho, he, hoa, hm, hrg⟩ := id hHi
  obtain ⟨kl1, kl2⟩ : 0 ≤ L ∧ L ≤ 120 := k.2.2.2.2.2.1
  obtain ⟨kc1, kc2⟩ : 0 ≤ c ∧ c ≤ 14 := k.2.2.1
  refine ax_aload_n f118_0 rfl ?_
  refine ax_getf f118_1 o rfl ?_
  refine ax_iload_n f118_4 rfl ?_
  refine ax_cvI (rest := []) f118_5 hH.2.1.1 rfl rfl rfl rfl rfl rfl rfl rfl (c_49 hH.2.1 i.ff i.b12 hn) ?_
  intro _ e_
  obtain rfl := e_.symm
  clear e_
  rw [b2i_t h0]
  refine ax_if_ne f118_8 rfl ⟨by omega, by omega⟩ (fun q8 => ?_) (fun q8 => absurd q8 (by omega))
  refine ax_iload_n f118_21 rfl ?_
  refine ax_csI (rest := []) f118_22 (Or.inl rfl) rfl rfl rfl rfl rfl rfl (c_137 hv) ?_
  intro _ e_
  obtain rfl := e_.symm
  clear e_
  rw [b2i_f h1]
  refine ax_if_ne f118_25 rfl ⟨by omega, by omega⟩ (fun q25 => absurd q25 (by omega)) (fun q25 => ?_)
  refine ax_throw f118_28 rfl ?_
  exact ⟨rfl, _, rfl, a, fr_rf⟩
theorem k_118 {h : am_H} {R : Int → Int} {S : Int → Int → Int} {c : Int} {G : Nat → Int → Int} {b : Int → Int} {T : Int → Int} {L : Int} (a : Cls h (R, S, c, G, b, T, L)) (k : okS (R, S, c, G, b, T, L)) {n v : Int} (hn : inI n) (hv : inI v) (h0 : 0 ≤ n ∧ n < blk R) (h1 : -2 ≤ v ∧ v ≤ 2) : am_X 4 118 0 (am_ent 118 [.ref 0, .int (iI n), .int (iI v)]) [] h (Cout h (R (205 + n)) (uZ R (205 + n) v, rmS S c R, min (c + 1) 14, G, b, T, L)) := by
  show am_X 4 118 0 [.ref 0, .int (iI n), .int (iI v), am_u] [] h _
  obtain ⟨o, hH, ⟨R2, hH2⟩, hF, hS, hP, hU, hHi, hSl, pos, le, fi, se, hT⟩ := id a
  have hH : Herd h 1 R := hH
  have hHi : Hist h 33 S c := hHi
  have hSl : Slot h 105 G b := hSl
  have hT : Tx h 118 T L pos le fi se := hT
  have i : inv R := k.1
  obtain ⟨nx, M, f, ho, he, hoa, hm, hrg⟩ := id hHi
  obtain ⟨kl1, kl2⟩ : 0 ≤ L ∧ L ≤ 120 := k.2.2.2.2.2.1
  obtain ⟨kc1, kc2⟩ : 0 ≤ c ∧ c ≤ 14 := k.2.2.1
  refine ax_aload_n f118_0 rfl ?_
  refine ax_getf f118_1 o rfl ?_
  refine ax_iload_n f118_4 rfl ?_
  refine ax_cvI (rest := []) f118_5 hH.2.1.1 rfl rfl rfl rfl rfl rfl rfl rfl (c_49 hH.2.1 i.ff i.b12 hn) ?_
  intro _ e_
  obtain rfl := e_.symm
  clear e_
  rw [b2i_t h0]
  refine ax_if_ne f118_8 rfl ⟨by omega, by omega⟩ (fun q8 => ?_) (fun q8 => absurd q8 (by omega))
  refine ax_iload_n f118_21 rfl ?_
  refine ax_csI (rest := []) f118_22 (Or.inl rfl) rfl rfl rfl rfl rfl rfl (c_137 hv) ?_
  intro _ e_
  obtain rfl := e_.symm
  clear e_
  rw [b2i_t h1]
  refine ax_if_ne f118_25 rfl ⟨by omega, by omega⟩ (fun q25 => ?_) (fun q25 => absurd q25 (by omega))
  refine ax_aload_n f118_39 rfl ?_
  refine ax_getf f118_40 o rfl ?_
  refine ax_aload_n f118_43 rfl ?_
  refine ax_getf f118_44 o rfl ?_
  refine ax_cvV (rest := []) f118_47 ho rfl rfl rfl rfl rfl rfl rfl rfl (c_38 hHi hH.2.1 (by omega) i.td) ?_
  rintro h9 ⟨H9, f9⟩
  have o9 := f9.at (q := 0) (by unfold HiS; omega) o
  have hH9 := hH.mv f9 (fun x x1 x2 => by unfold HiS; omega)
  refine ax_aload_n f118_50 rfl ?_
  refine ax_getf f118_51 o9 rfl ?_
  refine ax_iload_n f118_54 rfl ?_
  refine ax_cvI (rest := []) f118_55 hH9.2.1.1 rfl rfl rfl rfl rfl rfl rfl rfl (c_46 hH9.2.1 h0.1 (by have := i.b12; omega)) ?_
  intro _ e_
  obtain rfl := e_.symm
  clear e_
  refine ax_istore_n (ls' := [_, _, _, _]) f118_58 (Nat.le_of_ble_eq_true rfl) rfl ?_
  refine ax_aload_n f118_59 rfl ?_
  refine ax_getf f118_60 o9 rfl ?_
  refine ax_iload_n f118_63 rfl ?_
  refine ax_iload_n f118_64 rfl ?_
  refine ax_cvV (rest := []) f118_65 hH9.2.1.1 rfl rfl rfl rfl rfl rfl rfl rfl (c_60 hH9.2.1 i.ff i.b12 h0.1 h0.2) ?_
  rintro h8 ⟨m8, f8⟩
  have o8 := f8.at (q := 0) (by unfold MS; omega) o9
  refine ax_iload_n f118_68 rfl ?_
  refine ax_ireturn f118_69 rfl rfl ?_
  obtain ⟨g1, g2⟩ := Cls_hm a f9 H9 (MS_HS f8) (hH9.me m8 f8)
  exact ⟨rI_of rfl, g1, g2⟩
theorem k_119 {h : am_H} {R : Int → Int} {S : Int → Int → Int} {c : Int} {G : Nat → Int → Int} {b : Int → Int} {T : Int → Int} {L : Int} (a : Cls h (R, S, c, G, b, T, L)) (k : okS (R, S, c, G, b, T, L))  : am_X 4 119 0 (am_ent 119 [.ref 0]) [] h (Cout h (sm (fun j => tel R (193 + j)) 0 12) (tel R, rmS S c R, min (c + 1) 14, G, b, T, L)) := by
  show am_X 4 119 0 [.ref 0] [] h _
  obtain ⟨o, hH, ⟨R2, hH2⟩, hF, hS, hP, hU, hHi, hSl, pos, le, fi, se, hT⟩ := id a
  have hH : Herd h 1 R := hH
  have hHi : Hist h 33 S c := hHi
  have hSl : Slot h 105 G b := hSl
  have hT : Tx h 118 T L pos le fi se := hT
  have i : inv R := k.1
  obtain ⟨nx, M, f, ho, he, hoa, hm, hrg⟩ := id hHi
  obtain ⟨kl1, kl2⟩ : 0 ≤ L ∧ L ≤ 120 := k.2.2.2.2.2.1
  obtain ⟨kc1, kc2⟩ : 0 ≤ c ∧ c ≤ 14 := k.2.2.1
  refine ax_aload_n f119_0 rfl ?_
  refine ax_getf f119_1 o rfl ?_
  refine ax_aload_n f119_4 rfl ?_
  refine ax_getf f119_5 o rfl ?_
  refine ax_cvV (rest := []) f119_8 ho rfl rfl rfl rfl rfl rfl rfl rfl (c_38 hHi hH.2.1 (by omega) i.td) ?_
  rintro h9 ⟨H9, f9⟩
  have o9 := f9.at (q := 0) (by unfold HiS; omega) o
  have hH9 := hH.mv f9 (fun x x1 x2 => by unfold HiS; omega)
  refine ax_aload_n f119_11 rfl ?_
  refine ax_getf f119_12 o9 rfl ?_
  refine ax_cvV (rest := []) f119_15 hH9.2.1.1 rfl rfl rfl rfl rfl rfl rfl rfl (c_63 hH9.2.1 i.ff i.1.2.1 i.b12) ?_
  rintro h8 ⟨m8, f8⟩
  have o8 := f8.at (q := 0) (by unfold MS; omega) o9
  refine ax_aload_n f119_18 rfl ?_
  refine ax_getf f119_19 o8 rfl ?_
  refine ax_cvI (rest := []) f119_22 m8.1 rfl rfl rfl rfl rfl rfl rfl rfl (c_55 m8) ?_
  intro _ e_
  obtain rfl := e_.symm
  clear e_
  refine ax_ireturn f119_25 rfl rfl ?_
  obtain ⟨g1, g2⟩ := Cls_hm a f9 H9 (MS_HS f8) (hH9.me m8 f8)
  exact ⟨rI_of rfl, g1, g2⟩
theorem k_120_1 {h : am_H} {R : Int → Int} {S : Int → Int → Int} {c : Int} {G : Nat → Int → Int} {b : Int → Int} {T : Int → Int} {L : Int} (a : Cls h (R, S, c, G, b, T, L)) (k : okS (R, S, c, G, b, T, L)) {z : Int} (hz : inI z) (h0 : ¬ (0 ≤ z ∧ z < 3)) : am_X 55 120 0 (am_ent 120 [.ref 0, .int (iI z)]) [] h (Cthr h IAE (R, S, c, G, b, T, L)) := by
  show am_X 55 120 0 [.ref 0, .int (iI z)] [] h _
  obtain ⟨o, hH, ⟨R2, hH2⟩, hF, hS, hP, hU, hHi, hSl, pos, le, fi, se, hT⟩ := id a
  have hH : Herd h 1 R := hH
  have hHi : Hist h 33 S c := hHi
  have hSl : Slot h 105 G b := hSl
  have hT : Tx h 118 T L pos le fi se := hT
  have i : inv R := k.1
  obtain ⟨nx, M, f, ho, he, hoa, hm, hrg⟩ := id hHi
  obtain ⟨kl1, kl2⟩ : 0 ≤ L ∧ L ≤ 120 := k.2.2.2.2.2.1
  obtain ⟨kc1, kc2⟩ : 0 ≤ c ∧ c ≤ 14 := k.2.2.1
  refine ax_iload_n f120_0 rfl ?_
  refine ax_csI (rest := []) f120_1 (Or.inl rfl) rfl rfl rfl rfl rfl rfl (c_139 hz) ?_
  intro _ e_
  obtain rfl := e_.symm
  clear e_
  rw [b2i_f h0]
  refine ax_if_ne f120_4 rfl ⟨by omega, by omega⟩ (fun q4 => absurd q4 (by omega)) (fun q4 => ?_)
  refine ax_throw f120_7 rfl ?_
  exact ⟨rfl, _, rfl, a, fr_rf⟩
theorem k_120_2 {h : am_H} {R : Int → Int} {S : Int → Int → Int} {c : Int} {G : Nat → Int → Int} {b : Int → Int} {T : Int → Int} {L : Int} (a : Cls h (R, S, c, G, b, T, L)) (k : okS (R, S, c, G, b, T, L)) {z : Int} (hz : inI z) (h0 : 0 ≤ z ∧ z < 3) (h1 : ¬ (R 192 = 1 ∨ R 269 = 0)) : am_X 55 120 0 (am_ent 120 [.ref 0, .int (iI z)]) [] h (Cthr h ISE (R, S, c, G, b, T, L)) := by
  show am_X 55 120 0 [.ref 0, .int (iI z)] [] h _
  obtain ⟨o, hH, ⟨R2, hH2⟩, hF, hS, hP, hU, hHi, hSl, pos, le, fi, se, hT⟩ := id a
  have hH : Herd h 1 R := hH
  have hHi : Hist h 33 S c := hHi
  have hSl : Slot h 105 G b := hSl
  have hT : Tx h 118 T L pos le fi se := hT
  have i : inv R := k.1
  obtain ⟨nx, M, f, ho, he, hoa, hm, hrg⟩ := id hHi
  obtain ⟨kl1, kl2⟩ : 0 ≤ L ∧ L ≤ 120 := k.2.2.2.2.2.1
  obtain ⟨kc1, kc2⟩ : 0 ≤ c ∧ c ≤ 14 := k.2.2.1
  refine ax_iload_n f120_0 rfl ?_
  refine ax_csI (rest := []) f120_1 (Or.inl rfl) rfl rfl rfl rfl rfl rfl (c_139 hz) ?_
  intro _ e_
  obtain rfl := e_.symm
  clear e_
  rw [b2i_t h0]
  refine ax_if_ne f120_4 rfl ⟨by omega, by omega⟩ (fun q4 => ?_) (fun q4 => absurd q4 (by omega))
  refine ax_aload_n f120_18 rfl ?_
  refine ax_getf f120_19 o rfl ?_
  refine ax_cvI (rest := []) f120_22 hH.2.1.1 rfl rfl rfl rfl rfl rfl rfl rfl (c_56 hH.2.1 i.td i.tr) ?_
  intro _ e_
  obtain rfl := e_.symm
  clear e_
  rw [b2i_f h1]
  refine ax_if_ne f120_25 rfl ⟨by omega, by omega⟩ (fun q25 => absurd q25 (by omega)) (fun q25 => ?_)
  refine ax_throw f120_28 rfl ?_
  exact ⟨rfl, _, rfl, a, fr_rf⟩
theorem k_120 {h : am_H} {R : Int → Int} {S : Int → Int → Int} {c : Int} {G : Nat → Int → Int} {b : Int → Int} {T : Int → Int} {L : Int} (a : Cls h (R, S, c, G, b, T, L)) (k : okS (R, S, c, G, b, T, L)) {z : Int} (hz : inI z) (h0 : 0 ≤ z ∧ z < 3) (h1 : R 192 = 1 ∨ R 269 = 0) : am_X 55 120 0 (am_ent 120 [.ref 0, .int (iI z)]) [] h (Cout h ((sek R z).1) (skd R z, rmS S c R, min (c + 1) 14, G, b, T, L)) := by
  show am_X 55 120 0 [.ref 0, .int (iI z)] [] h _
  obtain ⟨o, hH, ⟨R2, hH2⟩, hF, hS, hP, hU, hHi, hSl, pos, le, fi, se, hT⟩ := id a
  have hH : Herd h 1 R := hH
  have hHi : Hist h 33 S c := hHi
  have hSl : Slot h 105 G b := hSl
  have hT : Tx h 118 T L pos le fi se := hT
  have i : inv R := k.1
  obtain ⟨nx, M, f, ho, he, hoa, hm, hrg⟩ := id hHi
  obtain ⟨kl1, kl2⟩ : 0 ≤ L ∧ L ≤ 120 := k.2.2.2.2.2.1
  obtain ⟨kc1, kc2⟩ : 0 ≤ c ∧ c ≤ 14 := k.2.2.1
  refine ax_iload_n f120_0 rfl ?_
  refine ax_csI (rest := []) f120_1 (Or.inl rfl) rfl rfl rfl rfl rfl rfl (c_139 hz) ?_
  intro _ e_
  obtain rfl := e_.symm
  clear e_
  rw [b2i_t h0]
  refine ax_if_ne f120_4 rfl ⟨by omega, by omega⟩ (fun q4 => ?_) (fun q4 => absurd q4 (by omega))
  refine ax_aload_n f120_18 rfl ?_
  refine ax_getf f120_19 o rfl ?_
  refine ax_cvI (rest := []) f120_22 hH.2.1.1 rfl rfl rfl rfl rfl rfl rfl rfl (c_56 hH.2.1 i.td i.tr) ?_
  intro _ e_
  obtain rfl := e_.symm
  clear e_
  rw [b2i_t h1]
  refine ax_if_ne f120_25 rfl ⟨by omega, by omega⟩ (fun q25 => ?_) (fun q25 => absurd q25 (by omega))
  refine ax_aload_n f120_38 rfl ?_
  refine ax_getf f120_39 o rfl ?_
  refine ax_aload_n f120_42 rfl ?_
  refine ax_getf f120_43 o rfl ?_
  refine ax_cvV (rest := []) f120_46 ho rfl rfl rfl rfl rfl rfl rfl rfl (c_38 hHi hH.2.1 (by omega) i.td) ?_
  rintro h9 ⟨H9, f9⟩
  have o9 := f9.at (q := 0) (by unfold HiS; omega) o
  have hH9 := hH.mv f9 (fun x x1 x2 => by unfold HiS; omega)
  refine ax_aload_n f120_49 rfl ?_
  refine ax_getf f120_50 o9 rfl ?_
  refine ax_iload_n f120_53 rfl ?_
  refine ax_cvI (rest := []) f120_54 hH9.1 rfl rfl rfl rfl rfl rfl rfl rfl (c_35s hH9 i h0 h1) ?_
  rintro h8 ⟨H8, ⟨v8, fd8, s8⟩, f8⟩
  have o8 := f8.at (q := 0) (by unfold HS; omega) o9
  refine ax_pop f120_57 rfl ?_
  refine ax_aload_n f120_58 rfl ?_
  refine ax_getf f120_59 o8 rfl ?_
  refine ax_getf f120_62 H8.1 rfl ?_
  refine ax_getf f120_65 s8 rfl ?_
  refine ax_ireturn f120_68 rfl rfl ?_
  obtain ⟨g1, g2⟩ := Cls_hm a f9 H9 f8 H8
  exact ⟨rI_of rfl, g1, g2⟩
theorem k_121_1 {h : am_H} {R : Int → Int} {S : Int → Int → Int} {c : Int} {G : Nat → Int → Int} {b : Int → Int} {T : Int → Int} {L : Int} (a : Cls h (R, S, c, G, b, T, L)) (k : okS (R, S, c, G, b, T, L)) {v : Int} (hv : inI v) (h0 : ¬ (0 ≤ v ∧ v ≤ 1)) : am_X 3 121 0 (am_ent 121 [.ref 0, .int (iI v)]) [] h (Cthr h IAE (R, S, c, G, b, T, L)) := by
  show am_X 3 121 0 [.ref 0, .int (iI v), am_u] [] h _
  obtain ⟨o, hH, ⟨R2, hH2⟩, hF, hS, hP, hU, hHi, hSl, pos, le, fi, se, hT⟩ := id a
  have hH : Herd h 1 R := hH
  have hHi : Hist h 33 S c := hHi
  have hSl : Slot h 105 G b := hSl
  have hT : Tx h 118 T L pos le fi se := hT
  have i : inv R := k.1
  obtain ⟨nx, M, f, ho, he, hoa, hm, hrg⟩ := id hHi
  obtain ⟨kl1, kl2⟩ : 0 ≤ L ∧ L ≤ 120 := k.2.2.2.2.2.1
  obtain ⟨kc1, kc2⟩ : 0 ≤ c ∧ c ≤ 14 := k.2.2.1
  obtain ⟨hv1, hv2⟩ := hv
  refine ax_iload_n f121_0 rfl ?_
  refine ax_if_eq f121_1 rfl ⟨by omega, by omega⟩ (fun q1 => absurd q1 (by omega)) (fun q1 => ?_)
  refine ax_iload_n f121_4 rfl ?_
  refine ax_iconst f121_5 ?_
  refine ax_icmp_eq f121_6 rfl ⟨by omega, by omega⟩ ⟨by omega, by omega⟩ (fun q6 => absurd q6 (by omega)) (fun q6 => ?_)
  refine ax_throw f121_9 rfl ?_
  exact ⟨rfl, _, rfl, a, fr_rf⟩
theorem k_121 {h : am_H} {R : Int → Int} {S : Int → Int → Int} {c : Int} {G : Nat → Int → Int} {b : Int → Int} {T : Int → Int} {L : Int} (a : Cls h (R, S, c, G, b, T, L)) (k : okS (R, S, c, G, b, T, L)) {v : Int} (h0 : 0 ≤ v ∧ v ≤ 1) : am_X 3 121 0 (am_ent 121 [.ref 0, .int (iI v)]) [] h (Cout h (R 269) (uZ R 269 v, rmS S c R, min (c + 1) 14, G, b, T, L)) := by
  show am_X 3 121 0 [.ref 0, .int (iI v), am_u] [] h _
  obtain ⟨o, hH, ⟨R2, hH2⟩, hF, hS, hP, hU, hHi, hSl, pos, le, fi, se, hT⟩ := id a
  have hH : Herd h 1 R := hH
  have hHi : Hist h 33 S c := hHi
  have hSl : Slot h 105 G b := hSl
  have hT : Tx h 118 T L pos le fi se := hT
  have i : inv R := k.1
  obtain ⟨nx, M, f, ho, he, hoa, hm, hrg⟩ := id hHi
  obtain ⟨kl1, kl2⟩ : 0 ≤ L ∧ L ≤ 120 := k.2.2.2.2.2.1
  obtain ⟨kc1, kc2⟩ : 0 ≤ c ∧ c ≤ 14 := k.2.2.1
  rcases (show v = 0 ∨ v = 1 by omega) with hc | hc
  · subst hc
    refine ax_iload_n f121_0 rfl ?_
    refine ax_if_eq f121_1 rfl ⟨by omega, by omega⟩ (fun q1 => ?_) (fun q1 => absurd q1 (by omega))
    refine ax_aload_n f121_20 rfl ?_
    refine ax_getf f121_21 o rfl ?_
    refine ax_aload_n f121_24 rfl ?_
    refine ax_getf f121_25 o rfl ?_
    refine ax_cvV (rest := []) f121_28 ho rfl rfl rfl rfl rfl rfl rfl rfl (c_38 hHi hH.2.1 (by omega) i.td) ?_
    rintro h9 ⟨H9, f9⟩
    have o9 := f9.at (q := 0) (by unfold HiS; omega) o
    have hH9 := hH.mv f9 (fun x x1 x2 => by unfold HiS; omega)
    refine ax_aload_n f121_31 rfl ?_
    refine ax_getf f121_32 o9 rfl ?_
    refine ax_getf f121_35 hH9.2.1.1 rfl ?_
    refine ax_istore_n (ls' := [_, _, _]) f121_38 (Nat.le_of_ble_eq_true rfl) rfl ?_
    refine ax_aload_n f121_39 rfl ?_
    refine ax_getf f121_40 o9 rfl ?_
    refine ax_iload_n f121_43 rfl ?_
    refine ax_putfO f121_44 hH9.2.1.1 rfl rfl rfl rfl (fun h2 o2 r2 => ?_)
    refine ax_iload_n f121_47 rfl ?_
    refine ax_ireturn f121_48 rfl rfl ?_
    have F8 : fr (MS 2) h9 _ := r2.mono (fun x e => by unfold MS; omega)
    obtain ⟨g1, g2⟩ := Cls_hm a f9 H9 (MS_HS F8) (hH9.me (Mead_tr hH9.2.1 o2 r2) F8)
    exact ⟨rI_of rfl, g1, g2⟩
  · subst hc
    refine ax_iload_n f121_0 rfl ?_
    refine ax_if_eq f121_1 rfl ⟨by omega, by omega⟩ (fun q1 => absurd q1 (by omega)) (fun q1 => ?_)
    refine ax_iload_n f121_4 rfl ?_
    refine ax_iconst f121_5 ?_
    refine ax_icmp_eq f121_6 rfl ⟨by omega, by omega⟩ ⟨by omega, by omega⟩ (fun q6 => ?_) (fun q6 => absurd q6 (by omega))
    refine ax_aload_n f121_20 rfl ?_
    refine ax_getf f121_21 o rfl ?_
    refine ax_aload_n f121_24 rfl ?_
    refine ax_getf f121_25 o rfl ?_
    refine ax_cvV (rest := []) f121_28 ho rfl rfl rfl rfl rfl rfl rfl rfl (c_38 hHi hH.2.1 (by omega) i.td) ?_
    rintro h9 ⟨H9, f9⟩
    have o9 := f9.at (q := 0) (by unfold HiS; omega) o
    have hH9 := hH.mv f9 (fun x x1 x2 => by unfold HiS; omega)
    refine ax_aload_n f121_31 rfl ?_
    refine ax_getf f121_32 o9 rfl ?_
    refine ax_getf f121_35 hH9.2.1.1 rfl ?_
    refine ax_istore_n (ls' := [_, _, _]) f121_38 (Nat.le_of_ble_eq_true rfl) rfl ?_
    refine ax_aload_n f121_39 rfl ?_
    refine ax_getf f121_40 o9 rfl ?_
    refine ax_iload_n f121_43 rfl ?_
    refine ax_putfO f121_44 hH9.2.1.1 rfl rfl rfl rfl (fun h2 o2 r2 => ?_)
    refine ax_iload_n f121_47 rfl ?_
    refine ax_ireturn f121_48 rfl rfl ?_
    have F8 : fr (MS 2) h9 _ := r2.mono (fun x e => by unfold MS; omega)
    obtain ⟨g1, g2⟩ := Cls_hm a f9 H9 (MS_HS F8) (hH9.me (Mead_tr hH9.2.1 o2 r2) F8)
    exact ⟨rI_of rfl, g1, g2⟩
end ACT
