/-! ===== the class: what would be, slots ===== -/
section WLD
/-- the numbers of a search -/
def isg (R : Int → Int) (w q : Int) : Int := if q = 0 then (sek R w).1 else if q = 1 then sm (sek R w).2 0 48 else if q = 2 then sm (fun j => if R (48 + j) = 1 then 0 else (sek R w).2 j) 0 48 else sm (fun j => if (sek R w).2 j = 1 then 0 else R (48 + j)) 0 48
theorem csm_01 {R : Int → Int} (iw : ibt R 0 48 1 99) {x y v : Int} (h1 : 0 ≤ x) (h2 : x ≤ y) (h3 : y ≤ 48) : csm R x y v = 0 ∨ csm R x y v = 1 := by
  unfold csm
  split
  · exact (sz_f (R := R) (y - x).toNat sb0 x sz_0 (fun j j1 j2 => by have := iw j (by omega) (by omega); rw [Int.zero_add] at this; omega) v).2
  · exact Or.inl rfl
/-- a search of the whole class -/
theorem Cls_sr {h h' : am_H} {s : St} {lk : Int} {F : Int → Int} {p : Nat} (a : Cls h s) (o : Sob h' 24 p lk F) (q : Hl0 h' 25) (f : fr (fun q => 24 ≤ q ∧ q ≤ 24 + 2) h h') : Cls h' s ∧ fr FC h h' :=
  Cls_w a (f.mono fun x e => by omega) (Sob.z o q) (a.2.2.2.2.2.1.mv f (fun x x1 x2 => by omega)) (a.2.2.2.2.2.2.1.mv f (by omega) (by omega))
theorem k_123_1 {h : am_H} {R : Int → Int} {S : Int → Int → Int} {c : Int} {G : Nat → Int → Int} {b : Int → Int} {T : Int → Int} {L : Int} (a : Cls h (R, S, c, G, b, T, L)) (k : okS (R, S, c, G, b, T, L)) {w0 q0 : Int} (hw : inI w0) (hq : inI q0) (h0 : ¬ ((0 ≤ w0 ∧ w0 < 3) ∧ (0 ≤ q0 ∧ q0 ≤ 3))) : am_X 54 123 0 (am_ent 123 [.ref 0, .int (iI w0), .int (iI q0)]) [] h (Cthr h IAE (R, S, c, G, b, T, L)) := by
  show am_X 54 123 0 [.ref 0, .int (iI w0), .int (iI q0)] [] h _
  obtain ⟨o, hH, ⟨R2, hH2⟩, hF, hS, hP, hU, hHi, hSl, pos, le, fi, se, hT⟩ := id a
  have hH : Herd h 1 R := hH
  have hHi : Hist h 33 S c := hHi
  have hSl : Slot h 105 G b := hSl
  have hT : Tx h 118 T L pos le fi se := hT
  have i : inv R := k.1
  obtain ⟨nx, M, f, ho, he, hoa, hm, hrg⟩ := id hHi
  obtain ⟨kl1, kl2⟩ : 0 ≤ L ∧ L ≤ 120 := k.2.2.2.2.2.1
  obtain ⟨kc1, kc2⟩ : 0 ≤ c ∧ c ≤ 14 := k.2.2.1
  obtain ⟨hq1, hq2⟩ := hq
  by_cases c0 : 0 ≤ w0 ∧ w0 < 3
  · refine ax_iload_n f123_0 rfl ?_
    refine ax_csI (rest := []) f123_1 (Or.inl rfl) rfl rfl rfl rfl rfl rfl (c_139 hw) ?_
    intro _ e_
    obtain rfl := e_.symm
    clear e_
    rw [b2i_t c0]
    refine ax_if_ne f123_4 rfl ⟨by omega, by omega⟩ (fun q4 => ?_) (fun q4 => absurd q4 (by omega))
    refine ax_iload_n f123_18 rfl ?_
    refine ax_if_lt f123_19 rfl ⟨by omega, by omega⟩ (fun q19 => ?_) (fun q19 => ?_)
    · refine ax_throw f123_27 rfl ?_
      exact ⟨rfl, _, rfl, a, fr_rf⟩
    · refine ax_iload_n f123_22 rfl ?_
      refine ax_iconst f123_23 ?_
      refine ax_icmp_le f123_24 rfl ⟨by omega, by omega⟩ ⟨by omega, by omega⟩ (fun q24 => absurd q24 (by omega)) (fun q24 => ?_)
      refine ax_throw f123_27 rfl ?_
      exact ⟨rfl, _, rfl, a, fr_rf⟩
  · refine ax_iload_n f123_0 rfl ?_
    refine ax_csI (rest := []) f123_1 (Or.inl rfl) rfl rfl rfl rfl rfl rfl (c_139 hw) ?_
    intro _ e_
    obtain rfl := e_.symm
    clear e_
    rw [b2i_f c0]
    refine ax_if_ne f123_4 rfl ⟨by omega, by omega⟩ (fun q4 => absurd q4 (by omega)) (fun q4 => ?_)
    refine ax_throw f123_7 rfl ?_
    exact ⟨rfl, _, rfl, a, fr_rf⟩
theorem k_123_2 {h : am_H} {R : Int → Int} {S : Int → Int → Int} {c : Int} {G : Nat → Int → Int} {b : Int → Int} {T : Int → Int} {L : Int} (a : Cls h (R, S, c, G, b, T, L)) (k : okS (R, S, c, G, b, T, L)) {w0 q0 : Int} (hw : inI w0) (h0 : 0 ≤ w0 ∧ w0 < 3) (h1 : 0 ≤ q0 ∧ q0 ≤ 3) (h2 : ¬ (R 192 = 1 ∨ R 269 = 0)) : am_X 54 123 0 (am_ent 123 [.ref 0, .int (iI w0), .int (iI q0)]) [] h (Cthr h ISE (R, S, c, G, b, T, L)) := by
  show am_X 54 123 0 [.ref 0, .int (iI w0), .int (iI q0)] [] h _
  obtain ⟨o, hH, ⟨R2, hH2⟩, hF, hS, hP, hU, hHi, hSl, pos, le, fi, se, hT⟩ := id a
  have hH : Herd h 1 R := hH
  have hHi : Hist h 33 S c := hHi
  have hSl : Slot h 105 G b := hSl
  have hT : Tx h 118 T L pos le fi se := hT
  have i : inv R := k.1
  obtain ⟨nx, M, f, ho, he, hoa, hm, hrg⟩ := id hHi
  obtain ⟨kl1, kl2⟩ : 0 ≤ L ∧ L ≤ 120 := k.2.2.2.2.2.1
  obtain ⟨kc1, kc2⟩ : 0 ≤ c ∧ c ≤ 14 := k.2.2.1
  refine ax_iload_n f123_0 rfl ?_
  refine ax_csI (rest := []) f123_1 (Or.inl rfl) rfl rfl rfl rfl rfl rfl (c_139 hw) ?_
  intro _ e_
  obtain rfl := e_.symm
  clear e_
  rw [b2i_t h0]
  refine ax_if_ne f123_4 rfl ⟨by omega, by omega⟩ (fun q4 => ?_) (fun q4 => absurd q4 (by omega))
  refine ax_iload_n f123_18 rfl ?_
  refine ax_if_lt f123_19 rfl ⟨by omega, by omega⟩ (fun q19 => absurd q19 (by omega)) (fun q19 => ?_)
  refine ax_iload_n f123_22 rfl ?_
  refine ax_iconst f123_23 ?_
  refine ax_icmp_le f123_24 rfl ⟨by omega, by omega⟩ ⟨by omega, by omega⟩ (fun q24 => ?_) (fun q24 => absurd q24 (by omega))
  refine ax_aload_n f123_38 rfl ?_
  refine ax_getf f123_39 o rfl ?_
  refine ax_cvI (rest := []) f123_42 hH.2.1.1 rfl rfl rfl rfl rfl rfl rfl rfl (c_56 hH.2.1 i.td i.tr) ?_
  intro _ e_
  obtain rfl := e_.symm
  clear e_
  rw [b2i_f h2]
  refine ax_if_ne f123_45 rfl ⟨by omega, by omega⟩ (fun q45 => absurd q45 (by omega)) (fun q45 => ?_)
  refine ax_throw f123_48 rfl ?_
  exact ⟨rfl, _, rfl, a, fr_rf⟩
theorem k_123 {h : am_H} {R : Int → Int} {S : Int → Int → Int} {c : Int} {G : Nat → Int → Int} {b : Int → Int} {T : Int → Int} {L : Int} (a : Cls h (R, S, c, G, b, T, L)) (k : okS (R, S, c, G, b, T, L)) {w0 q0 : Int} (hw : inI w0) (h0 : 0 ≤ w0 ∧ w0 < 3) (h1 : 0 ≤ q0 ∧ q0 ≤ 3) (h2 : R 192 = 1 ∨ R 269 = 0) : am_X 54 123 0 (am_ent 123 [.ref 0, .int (iI w0), .int (iI q0)]) [] h (Cout h (isg R w0 q0) (R, S, c, G, b, T, L)) := by
  show am_X 54 123 0 [.ref 0, .int (iI w0), .int (iI q0)] [] h _
  obtain ⟨o, hH, ⟨R2, hH2⟩, hF, hS, hP, hU, hHi, hSl, pos, le, fi, se, hT⟩ := id a
  have hH : Herd h 1 R := hH
  have hHi : Hist h 33 S c := hHi
  have hSl : Slot h 105 G b := hSl
  have hT : Tx h 118 T L pos le fi se := hT
  have i : inv R := k.1
  obtain ⟨nx, M, f, ho, he, hoa, hm, hrg⟩ := id hHi
  obtain ⟨kl1, kl2⟩ : 0 ≤ L ∧ L ≤ 120 := k.2.2.2.2.2.1
  obtain ⟨kc1, kc2⟩ : 0 ≤ c ∧ c ≤ 14 := k.2.2.1
  rcases (show q0 = 0 ∨ q0 = 1 ∨ q0 = 2 ∨ q0 = 3 by omega) with hc | hc | hc | hc
  · subst hc
    refine ax_iload_n f123_0 rfl ?_
    refine ax_csI (rest := []) f123_1 (Or.inl rfl) rfl rfl rfl rfl rfl rfl (c_139 hw) ?_
    intro _ e_
    obtain rfl := e_.symm
    clear e_
    rw [b2i_t h0]
    refine ax_if_ne f123_4 rfl ⟨by omega, by omega⟩ (fun q4 => ?_) (fun q4 => absurd q4 (by omega))
    refine ax_iload_n f123_18 rfl ?_
    refine ax_if_lt f123_19 rfl ⟨by omega, by omega⟩ (fun q19 => absurd q19 (by omega)) (fun q19 => ?_)
    refine ax_iload_n f123_22 rfl ?_
    refine ax_iconst f123_23 ?_
    refine ax_icmp_le f123_24 rfl ⟨by omega, by omega⟩ ⟨by omega, by omega⟩ (fun q24 => ?_) (fun q24 => absurd q24 (by omega))
    refine ax_aload_n f123_38 rfl ?_
    refine ax_getf f123_39 o rfl ?_
    refine ax_cvI (rest := []) f123_42 hH.2.1.1 rfl rfl rfl rfl rfl rfl rfl rfl (c_56 hH.2.1 i.td i.tr) ?_
    intro _ e_
    obtain rfl := e_.symm
    clear e_
    rw [b2i_t h2]
    refine ax_if_ne f123_45 rfl ⟨by omega, by omega⟩ (fun q45 => ?_) (fun q45 => absurd q45 (by omega))
    refine ax_aload_n f123_58 rfl ?_
    refine ax_getf f123_59 o rfl ?_
    refine ax_aload_n f123_62 rfl ?_
    refine ax_getf f123_63 o rfl ?_
    refine ax_iload_n f123_66 rfl ?_
    refine ax_cvV (rest := []) f123_67 hS.1.choose_spec.choose_spec.choose_spec rfl rfl rfl rfl rfl rfl rfl rfl (c_81 hS hH.2.1 i (by omega) (by omega)) ?_
    rintro h9 ⟨s9, g9, f9⟩
    have s9 : Sob h9 24 2 _ _ := s9
    have o9 := f9.at (q := 0) (by omega) o
    have m9 := hH.2.1.fr f9 (fun x x1 x2 => by omega)
    obtain ⟨g1, g2⟩ := Cls_sr a s9 g9 f9
    have hF01 := (sek_sp i.ff i.b12 w0).1
    refine ax_iload_n f123_70 rfl ?_
    refine ax_tswI f123_71 ⟨by omega, by omega⟩ (by omega) (by omega) rfl rfl ?_
    refine ax_aload_n f123_96 rfl ?_
    refine ax_getf f123_97 o9 rfl ?_
    refine ax_getf f123_100 s9 rfl ?_
    refine ax_ireturn f123_103 rfl rfl ?_
    exact ⟨rI_of rfl, g1, g2⟩
  · subst hc
    refine ax_iload_n f123_0 rfl ?_
    refine ax_csI (rest := []) f123_1 (Or.inl rfl) rfl rfl rfl rfl rfl rfl (c_139 hw) ?_
    intro _ e_
    obtain rfl := e_.symm
    clear e_
    rw [b2i_t h0]
    refine ax_if_ne f123_4 rfl ⟨by omega, by omega⟩ (fun q4 => ?_) (fun q4 => absurd q4 (by omega))
    refine ax_iload_n f123_18 rfl ?_
    refine ax_if_lt f123_19 rfl ⟨by omega, by omega⟩ (fun q19 => absurd q19 (by omega)) (fun q19 => ?_)
    refine ax_iload_n f123_22 rfl ?_
    refine ax_iconst f123_23 ?_
    refine ax_icmp_le f123_24 rfl ⟨by omega, by omega⟩ ⟨by omega, by omega⟩ (fun q24 => ?_) (fun q24 => absurd q24 (by omega))
    refine ax_aload_n f123_38 rfl ?_
    refine ax_getf f123_39 o rfl ?_
    refine ax_cvI (rest := []) f123_42 hH.2.1.1 rfl rfl rfl rfl rfl rfl rfl rfl (c_56 hH.2.1 i.td i.tr) ?_
    intro _ e_
    obtain rfl := e_.symm
    clear e_
    rw [b2i_t h2]
    refine ax_if_ne f123_45 rfl ⟨by omega, by omega⟩ (fun q45 => ?_) (fun q45 => absurd q45 (by omega))
    refine ax_aload_n f123_58 rfl ?_
    refine ax_getf f123_59 o rfl ?_
    refine ax_aload_n f123_62 rfl ?_
    refine ax_getf f123_63 o rfl ?_
    refine ax_iload_n f123_66 rfl ?_
    refine ax_cvV (rest := []) f123_67 hS.1.choose_spec.choose_spec.choose_spec rfl rfl rfl rfl rfl rfl rfl rfl (c_81 hS hH.2.1 i (by omega) (by omega)) ?_
    rintro h9 ⟨s9, g9, f9⟩
    have s9 : Sob h9 24 2 _ _ := s9
    have o9 := f9.at (q := 0) (by omega) o
    have m9 := hH.2.1.fr f9 (fun x x1 x2 => by omega)
    obtain ⟨g1, g2⟩ := Cls_sr a s9 g9 f9
    have hF01 := (sek_sp i.ff i.b12 w0).1
    refine ax_iload_n f123_70 rfl ?_
    refine ax_tswI f123_71 ⟨by omega, by omega⟩ (by omega) (by omega) rfl rfl ?_
    refine ax_aload_n f123_104 rfl ?_
    refine ax_getf f123_105 o9 rfl ?_
    refine ax_getf f123_108 s9 rfl ?_
    refine ax_csI (rest := []) f123_111 (Or.inl rfl) rfl rfl rfl rfl rfl rfl (c_bit01 hF01) ?_
    intro _ e_
    obtain rfl := e_.symm
    clear e_
    refine ax_ireturn f123_114 rfl rfl ?_
    exact ⟨rI_of rfl, g1, g2⟩
  · subst hc
    refine ax_iload_n f123_0 rfl ?_
    refine ax_csI (rest := []) f123_1 (Or.inl rfl) rfl rfl rfl rfl rfl rfl (c_139 hw) ?_
    intro _ e_
    obtain rfl := e_.symm
    clear e_
    rw [b2i_t h0]
    refine ax_if_ne f123_4 rfl ⟨by omega, by omega⟩ (fun q4 => ?_) (fun q4 => absurd q4 (by omega))
    refine ax_iload_n f123_18 rfl ?_
    refine ax_if_lt f123_19 rfl ⟨by omega, by omega⟩ (fun q19 => absurd q19 (by omega)) (fun q19 => ?_)
    refine ax_iload_n f123_22 rfl ?_
    refine ax_iconst f123_23 ?_
    refine ax_icmp_le f123_24 rfl ⟨by omega, by omega⟩ ⟨by omega, by omega⟩ (fun q24 => ?_) (fun q24 => absurd q24 (by omega))
    refine ax_aload_n f123_38 rfl ?_
    refine ax_getf f123_39 o rfl ?_
    refine ax_cvI (rest := []) f123_42 hH.2.1.1 rfl rfl rfl rfl rfl rfl rfl rfl (c_56 hH.2.1 i.td i.tr) ?_
    intro _ e_
    obtain rfl := e_.symm
    clear e_
    rw [b2i_t h2]
    refine ax_if_ne f123_45 rfl ⟨by omega, by omega⟩ (fun q45 => ?_) (fun q45 => absurd q45 (by omega))
    refine ax_aload_n f123_58 rfl ?_
    refine ax_getf f123_59 o rfl ?_
    refine ax_aload_n f123_62 rfl ?_
    refine ax_getf f123_63 o rfl ?_
    refine ax_iload_n f123_66 rfl ?_
    refine ax_cvV (rest := []) f123_67 hS.1.choose_spec.choose_spec.choose_spec rfl rfl rfl rfl rfl rfl rfl rfl (c_81 hS hH.2.1 i (by omega) (by omega)) ?_
    rintro h9 ⟨s9, g9, f9⟩
    have s9 : Sob h9 24 2 _ _ := s9
    have o9 := f9.at (q := 0) (by omega) o
    have m9 := hH.2.1.fr f9 (fun x x1 x2 => by omega)
    obtain ⟨g1, g2⟩ := Cls_sr a s9 g9 f9
    have hF01 := (sek_sp i.ff i.b12 w0).1
    refine ax_iload_n f123_70 rfl ?_
    refine ax_tswI f123_71 ⟨by omega, by omega⟩ (by omega) (by omega) rfl rfl ?_
    refine ax_aload_n f123_115 rfl ?_
    refine ax_getf f123_116 o9 rfl ?_
    refine ax_getf f123_119 s9 rfl ?_
    refine ax_aload_n f123_122 rfl ?_
    refine ax_getf f123_123 o9 rfl ?_
    refine ax_getf f123_126 m9.1 rfl ?_
    refine ax_ldc2_w f123_129 ?_
    refine ax_lxor f123_132 ?_
    refine ax_land f123_133 ?_
    rw [lB_not]
    refine ax_csI (rest := []) f123_134 (Or.inl rfl) rfl rfl rfl rfl rfl rfl (c_bit01 (fun j j1 j2 => by have := hF01 j j1 j2; split <;> omega)) ?_
    intro _ e_
    obtain rfl := e_.symm
    clear e_
    refine ax_ireturn f123_137 rfl rfl ?_
    exact ⟨rI_of rfl, g1, g2⟩
  · subst hc
    refine ax_iload_n f123_0 rfl ?_
    refine ax_csI (rest := []) f123_1 (Or.inl rfl) rfl rfl rfl rfl rfl rfl (c_139 hw) ?_
    intro _ e_
    obtain rfl := e_.symm
    clear e_
    rw [b2i_t h0]
    refine ax_if_ne f123_4 rfl ⟨by omega, by omega⟩ (fun q4 => ?_) (fun q4 => absurd q4 (by omega))
    refine ax_iload_n f123_18 rfl ?_
    refine ax_if_lt f123_19 rfl ⟨by omega, by omega⟩ (fun q19 => absurd q19 (by omega)) (fun q19 => ?_)
    refine ax_iload_n f123_22 rfl ?_
    refine ax_iconst f123_23 ?_
    refine ax_icmp_le f123_24 rfl ⟨by omega, by omega⟩ ⟨by omega, by omega⟩ (fun q24 => ?_) (fun q24 => absurd q24 (by omega))
    refine ax_aload_n f123_38 rfl ?_
    refine ax_getf f123_39 o rfl ?_
    refine ax_cvI (rest := []) f123_42 hH.2.1.1 rfl rfl rfl rfl rfl rfl rfl rfl (c_56 hH.2.1 i.td i.tr) ?_
    intro _ e_
    obtain rfl := e_.symm
    clear e_
    rw [b2i_t h2]
    refine ax_if_ne f123_45 rfl ⟨by omega, by omega⟩ (fun q45 => ?_) (fun q45 => absurd q45 (by omega))
    refine ax_aload_n f123_58 rfl ?_
    refine ax_getf f123_59 o rfl ?_
    refine ax_aload_n f123_62 rfl ?_
    refine ax_getf f123_63 o rfl ?_
    refine ax_iload_n f123_66 rfl ?_
    refine ax_cvV (rest := []) f123_67 hS.1.choose_spec.choose_spec.choose_spec rfl rfl rfl rfl rfl rfl rfl rfl (c_81 hS hH.2.1 i (by omega) (by omega)) ?_
    rintro h9 ⟨s9, g9, f9⟩
    have s9 : Sob h9 24 2 _ _ := s9
    have o9 := f9.at (q := 0) (by omega) o
    have m9 := hH.2.1.fr f9 (fun x x1 x2 => by omega)
    obtain ⟨g1, g2⟩ := Cls_sr a s9 g9 f9
    have hF01 := (sek_sp i.ff i.b12 w0).1
    refine ax_iload_n f123_70 rfl ?_
    refine ax_tswO f123_71 ⟨by omega, by omega⟩ (by omega) rfl ?_
    refine ax_aload_n f123_138 rfl ?_
    refine ax_getf f123_139 o9 rfl ?_
    refine ax_getf f123_142 m9.1 rfl ?_
    refine ax_aload_n f123_145 rfl ?_
    refine ax_getf f123_146 o9 rfl ?_
    refine ax_getf f123_149 s9 rfl ?_
    refine ax_ldc2_w f123_152 ?_
    refine ax_lxor f123_155 ?_
    refine ax_land f123_156 ?_
    rw [lB_not]
    refine ax_csI (rest := []) f123_157 (Or.inl rfl) rfl rfl rfl rfl rfl rfl (c_bit01 (fun j j1 j2 => by have := i.aw j1 j2; split <;> omega)) ?_
    intro _ e_
    obtain rfl := e_.symm
    clear e_
    refine ax_ireturn f123_160 rfl rfl ?_
    exact ⟨rI_of rfl, g1, g2⟩
theorem k_125_1 {h : am_H} {R : Int → Int} {S : Int → Int → Int} {c : Int} {G : Nat → Int → Int} {b : Int → Int} {T : Int → Int} {L : Int} (a : Cls h (R, S, c, G, b, T, L)) (k : okS (R, S, c, G, b, T, L)) {n w0 q0 : Int} (hn : inI n) (h0 : ¬ (0 ≤ n ∧ n < blk R)) : am_X 6 125 0 (am_ent 125 [.ref 0, .int (iI n), .int (iI w0), .int (iI q0)]) [] h (Cthr h IOB (R, S, c, G, b, T, L)) := by
  show am_X 6 125 0 [.ref 0, .int (iI n), .int (iI w0), .int (iI q0)] [] h _
  obtain ⟨o, hH, ⟨R2, hH2⟩, hF, hS, hP, hU, hHi, hSl, pos, le, fi, se, hT⟩ := id a
  have hH : Herd h 1 R := hH
  have hHi : Hist h 33 S c := hHi
  have hSl : Slot h 105 G b := hSl
  have hT : Tx h 118 T L pos le fi se := hT
  have i : inv R := k.1
  obtain ⟨nx, M, f, ho, he, hoa, hm, hrg⟩ := id hHi
  obtain ⟨kl1, kl2⟩ : 0 ≤ L ∧ L ≤ 120 := k.2.2.2.2.2.1
  obtain ⟨kc1, kc2⟩ : 0 ≤ c ∧ c ≤ 14 := k.2.2.1
  refine ax_aload_n f125_0 rfl ?_
  refine ax_getf f125_1 o rfl ?_
  refine ax_iload_n f125_4 rfl ?_
  refine ax_cvI (rest := []) f125_5 hH.2.1.1 rfl rfl rfl rfl rfl rfl rfl rfl (c_49 hH.2.1 i.ff i.b12 hn) ?_
  intro _ e_
  obtain rfl := e_.symm
  clear e_
  rw [b2i_f h0]
  refine ax_if_ne f125_8 rfl ⟨by omega, by omega⟩ (fun q8 => absurd q8 (by omega)) (fun q8 => ?_)
  refine ax_throw f125_11 rfl ?_
  exact ⟨rfl, _, rfl, a, fr_rf⟩
theorem k_125_2 {h : am_H} {R : Int → Int} {S : Int → Int → Int} {c : Int} {G : Nat → Int → Int} {b : Int → Int} {T : Int → Int} {L : Int} (a : Cls h (R, S, c, G, b, T, L)) (k : okS (R, S, c, G, b, T, L)) {n w0 q0 : Int} (hn : inI n) (hw : inI w0) (hq : inI q0) (h0 : 0 ≤ n ∧ n < blk R) (h1 : ¬ ((0 ≤ w0 ∧ w0 < 3) ∧ (0 ≤ q0 ∧ q0 ≤ 1))) : am_X 6 125 0 (am_ent 125 [.ref 0, .int (iI n), .int (iI w0), .int (iI q0)]) [] h (Cthr h IAE (R, S, c, G, b, T, L)) := by
  show am_X 6 125 0 [.ref 0, .int (iI n), .int (iI w0), .int (iI q0)] [] h _
  obtain ⟨o, hH, ⟨R2, hH2⟩, hF, hS, hP, hU, hHi, hSl, pos, le, fi, se, hT⟩ := id a
  have hH : Herd h 1 R := hH
  have hHi : Hist h 33 S c := hHi
  have hSl : Slot h 105 G b := hSl
  have hT : Tx h 118 T L pos le fi se := hT
  have i : inv R := k.1
  obtain ⟨nx, M, f, ho, he, hoa, hm, hrg⟩ := id hHi
  obtain ⟨kl1, kl2⟩ : 0 ≤ L ∧ L ≤ 120 := k.2.2.2.2.2.1
  obtain ⟨kc1, kc2⟩ : 0 ≤ c ∧ c ≤ 14 := k.2.2.1
  obtain ⟨hq1, hq2⟩ := hq
  by_cases c0 : 0 ≤ w0 ∧ w0 < 3
  · refine ax_aload_n f125_0 rfl ?_
    refine ax_getf f125_1 o rfl ?_
    refine ax_iload_n f125_4 rfl ?_
    refine ax_cvI (rest := []) f125_5 hH.2.1.1 rfl rfl rfl rfl rfl rfl rfl rfl (c_49 hH.2.1 i.ff i.b12 hn) ?_
    intro _ e_
    obtain rfl := e_.symm
    clear e_
    rw [b2i_t h0]
    refine ax_if_ne f125_8 rfl ⟨by omega, by omega⟩ (fun q8 => ?_) (fun q8 => absurd q8 (by omega))
    refine ax_iload_n f125_21 rfl ?_
    refine ax_csI (rest := []) f125_22 (Or.inl rfl) rfl rfl rfl rfl rfl rfl (c_139 hw) ?_
    intro _ e_
    obtain rfl := e_.symm
    clear e_
    rw [b2i_t c0]
    refine ax_if_ne f125_25 rfl ⟨by omega, by omega⟩ (fun q25 => ?_) (fun q25 => absurd q25 (by omega))
    refine ax_iload_n f125_39 rfl ?_
    refine ax_if_eq f125_40 rfl ⟨by omega, by omega⟩ (fun q40 => absurd q40 (by omega)) (fun q40 => ?_)
    refine ax_iload_n f125_43 rfl ?_
    refine ax_iconst f125_44 ?_
    refine ax_icmp_eq f125_45 rfl ⟨by omega, by omega⟩ ⟨by omega, by omega⟩ (fun q45 => absurd q45 (by omega)) (fun q45 => ?_)
    refine ax_throw f125_48 rfl ?_
    exact ⟨rfl, _, rfl, a, fr_rf⟩
  · refine ax_aload_n f125_0 rfl ?_
    refine ax_getf f125_1 o rfl ?_
    refine ax_iload_n f125_4 rfl ?_
    refine ax_cvI (rest := []) f125_5 hH.2.1.1 rfl rfl rfl rfl rfl rfl rfl rfl (c_49 hH.2.1 i.ff i.b12 hn) ?_
    intro _ e_
    obtain rfl := e_.symm
    clear e_
    rw [b2i_t h0]
    refine ax_if_ne f125_8 rfl ⟨by omega, by omega⟩ (fun q8 => ?_) (fun q8 => absurd q8 (by omega))
    refine ax_iload_n f125_21 rfl ?_
    refine ax_csI (rest := []) f125_22 (Or.inl rfl) rfl rfl rfl rfl rfl rfl (c_139 hw) ?_
    intro _ e_
    obtain rfl := e_.symm
    clear e_
    rw [b2i_f c0]
    refine ax_if_ne f125_25 rfl ⟨by omega, by omega⟩ (fun q25 => absurd q25 (by omega)) (fun q25 => ?_)
    refine ax_throw f125_28 rfl ?_
    exact ⟨rfl, _, rfl, a, fr_rf⟩
theorem k_125 {h : am_H} {R : Int → Int} {S : Int → Int → Int} {c : Int} {G : Nat → Int → Int} {b : Int → Int} {T : Int → Int} {L : Int} (a : Cls h (R, S, c, G, b, T, L)) (k : okS (R, S, c, G, b, T, L)) {n w0 q0 : Int} (hn : inI n) (hw : inI w0) (h0 : 0 ≤ n ∧ n < blk R) (h1 : 0 ≤ w0 ∧ w0 < 3) (h2 : 0 ≤ q0 ∧ q0 ≤ 1) : am_X 6 125 0 (am_ent 125 [.ref 0, .int (iI n), .int (iI w0), .int (iI q0)]) [] h (Cout h (if q0 = 0 then (lkb R w0 n).1 else (lkb R w0 n).2) (R, S, c, G, b, T, L)) := by
  show am_X 6 125 0 [.ref 0, .int (iI n), .int (iI w0), .int (iI q0)] [] h _
  obtain ⟨o, hH, ⟨R2, hH2⟩, hF, hS, hP, hU, hHi, hSl, pos, le, fi, se, hT⟩ := id a
  have hH : Herd h 1 R := hH
  have hHi : Hist h 33 S c := hHi
  have hSl : Slot h 105 G b := hSl
  have hT : Tx h 118 T L pos le fi se := hT
  have i : inv R := k.1
  obtain ⟨nx, M, f, ho, he, hoa, hm, hrg⟩ := id hHi
  obtain ⟨kl1, kl2⟩ : 0 ≤ L ∧ L ≤ 120 := k.2.2.2.2.2.1
  obtain ⟨kc1, kc2⟩ : 0 ≤ c ∧ c ≤ 14 := k.2.2.1
  rcases (show q0 = 0 ∨ q0 = 1 by omega) with hc | hc
  · subst hc
    refine ax_aload_n f125_0 rfl ?_
    refine ax_getf f125_1 o rfl ?_
    refine ax_iload_n f125_4 rfl ?_
    refine ax_cvI (rest := []) f125_5 hH.2.1.1 rfl rfl rfl rfl rfl rfl rfl rfl (c_49 hH.2.1 i.ff i.b12 hn) ?_
    intro _ e_
    obtain rfl := e_.symm
    clear e_
    rw [b2i_t h0]
    refine ax_if_ne f125_8 rfl ⟨by omega, by omega⟩ (fun q8 => ?_) (fun q8 => absurd q8 (by omega))
    refine ax_iload_n f125_21 rfl ?_
    refine ax_csI (rest := []) f125_22 (Or.inl rfl) rfl rfl rfl rfl rfl rfl (c_139 hw) ?_
    intro _ e_
    obtain rfl := e_.symm
    clear e_
    rw [b2i_t h1]
    refine ax_if_ne f125_25 rfl ⟨by omega, by omega⟩ (fun q25 => ?_) (fun q25 => absurd q25 (by omega))
    refine ax_iload_n f125_39 rfl ?_
    refine ax_if_eq f125_40 rfl ⟨by omega, by omega⟩ (fun q40 => ?_) (fun q40 => absurd q40 (by omega))
    refine ax_aload_n f125_59 rfl ?_
    refine ax_getf f125_60 o rfl ?_
    refine ax_aload_n f125_63 rfl ?_
    refine ax_getf f125_64 o rfl ?_
    refine ax_iload_n f125_67 rfl ?_
    refine ax_iload_n f125_68 rfl ?_
    refine ax_cvV (rest := []) f125_69 hP.1.choose_spec.choose_spec rfl rfl rfl rfl rfl rfl rfl rfl (c_70 hP hH.2.1 i (by omega) h0.1 h0.2 (by omega)) ?_
    rintro h9 ⟨p9, q9, f9⟩
    have p9 : Plob h9 27 _ _ := p9
    have o9 := f9.at (q := 0) (by omega) o
    obtain ⟨g, gc, gn⟩ := hP.2.2
    obtain ⟨g1, g2⟩ := Cls_w a (f9.mono fun x e => by omega) (hS.fr f9 (fun x x1 x2 => by omega)) ⟨⟨_, _, p9⟩, q9, g, gc.fr f9 (by omega), gn⟩ (hU.mv f9 (by omega) (by omega))
    refine ax_iload_n f125_72 rfl ?_
    refine ax_if_ne f125_73 rfl ⟨by omega, by omega⟩ (fun q73 => absurd q73 (by omega)) (fun q73 => ?_)
    refine ax_aload_n f125_76 rfl ?_
    refine ax_getf f125_77 o9 rfl ?_
    refine ax_getf f125_80 p9 rfl ?_
    refine ax_goto f125_83 rfl ?_
    refine ax_ireturn f125_93 rfl rfl ?_
    exact ⟨rI_of rfl, g1, g2⟩
  · subst hc
    refine ax_aload_n f125_0 rfl ?_
    refine ax_getf f125_1 o rfl ?_
    refine ax_iload_n f125_4 rfl ?_
    refine ax_cvI (rest := []) f125_5 hH.2.1.1 rfl rfl rfl rfl rfl rfl rfl rfl (c_49 hH.2.1 i.ff i.b12 hn) ?_
    intro _ e_
    obtain rfl := e_.symm
    clear e_
    rw [b2i_t h0]
    refine ax_if_ne f125_8 rfl ⟨by omega, by omega⟩ (fun q8 => ?_) (fun q8 => absurd q8 (by omega))
    refine ax_iload_n f125_21 rfl ?_
    refine ax_csI (rest := []) f125_22 (Or.inl rfl) rfl rfl rfl rfl rfl rfl (c_139 hw) ?_
    intro _ e_
    obtain rfl := e_.symm
    clear e_
    rw [b2i_t h1]
    refine ax_if_ne f125_25 rfl ⟨by omega, by omega⟩ (fun q25 => ?_) (fun q25 => absurd q25 (by omega))
    refine ax_iload_n f125_39 rfl ?_
    refine ax_if_eq f125_40 rfl ⟨by omega, by omega⟩ (fun q40 => absurd q40 (by omega)) (fun q40 => ?_)
    refine ax_iload_n f125_43 rfl ?_
    refine ax_iconst f125_44 ?_
    refine ax_icmp_eq f125_45 rfl ⟨by omega, by omega⟩ ⟨by omega, by omega⟩ (fun q45 => ?_) (fun q45 => absurd q45 (by omega))
    refine ax_aload_n f125_59 rfl ?_
    refine ax_getf f125_60 o rfl ?_
    refine ax_aload_n f125_63 rfl ?_
    refine ax_getf f125_64 o rfl ?_
    refine ax_iload_n f125_67 rfl ?_
    refine ax_iload_n f125_68 rfl ?_
    refine ax_cvV (rest := []) f125_69 hP.1.choose_spec.choose_spec rfl rfl rfl rfl rfl rfl rfl rfl (c_70 hP hH.2.1 i (by omega) h0.1 h0.2 (by omega)) ?_
    rintro h9 ⟨p9, q9, f9⟩
    have p9 : Plob h9 27 _ _ := p9
    have o9 := f9.at (q := 0) (by omega) o
    obtain ⟨g, gc, gn⟩ := hP.2.2
    obtain ⟨g1, g2⟩ := Cls_w a (f9.mono fun x e => by omega) (hS.fr f9 (fun x x1 x2 => by omega)) ⟨⟨_, _, p9⟩, q9, g, gc.fr f9 (by omega), gn⟩ (hU.mv f9 (by omega) (by omega))
    refine ax_iload_n f125_72 rfl ?_
    refine ax_if_ne f125_73 rfl ⟨by omega, by omega⟩ (fun q73 => ?_) (fun q73 => absurd q73 (by omega))
    refine ax_aload_n f125_86 rfl ?_
    refine ax_getf f125_87 o9 rfl ?_
    refine ax_getf f125_90 p9 rfl ?_
    refine ax_ireturn f125_93 rfl rfl ?_
    exact ⟨rI_of rfl, g1, g2⟩
theorem k_126_1 {h : am_H} {R : Int → Int} {S : Int → Int → Int} {c : Int} {G : Nat → Int → Int} {b : Int → Int} {T : Int → Int} {L : Int} (a : Cls h (R, S, c, G, b, T, L)) (k : okS (R, S, c, G, b, T, L)) {n : Int} (hn : inI n) (h0 : ¬ (0 ≤ n ∧ n < blk R)) : am_X 6 126 0 (am_ent 126 [.ref 0, .int (iI n)]) [] h (Cthr h IOB (R, S, c, G, b, T, L)) := by
  show am_X 6 126 0 [.ref 0, .int (iI n)] [] h _
  obtain ⟨o, hH, ⟨R2, hH2⟩, hF, hS, hP, hU, hHi, hSl, pos, le, fi, se, hT⟩ := id a
  have hH : Herd h 1 R := hH
  have hHi : Hist h 33 S c := hHi
  have hSl : Slot h 105 G b := hSl
  have hT : Tx h 118 T L pos le fi se := hT
  have i : inv R := k.1
  obtain ⟨nx, M, f, ho, he, hoa, hm, hrg⟩ := id hHi
  obtain ⟨kl1, kl2⟩ : 0 ≤ L ∧ L ≤ 120 := k.2.2.2.2.2.1
  obtain ⟨kc1, kc2⟩ : 0 ≤ c ∧ c ≤ 14 := k.2.2.1
  refine ax_aload_n f126_0 rfl ?_
  refine ax_getf f126_1 o rfl ?_
  refine ax_iload_n f126_4 rfl ?_
  refine ax_cvI (rest := []) f126_5 hH.2.1.1 rfl rfl rfl rfl rfl rfl rfl rfl (c_49 hH.2.1 i.ff i.b12 hn) ?_
  intro _ e_
  obtain rfl := e_.symm
  clear e_
  rw [b2i_f h0]
  refine ax_if_ne f126_8 rfl ⟨by omega, by omega⟩ (fun q8 => absurd q8 (by omega)) (fun q8 => ?_)
  refine ax_throw f126_11 rfl ?_
  exact ⟨rfl, _, rfl, a, fr_rf⟩
theorem k_126 {h : am_H} {R : Int → Int} {S : Int → Int → Int} {c : Int} {G : Nat → Int → Int} {b : Int → Int} {T : Int → Int} {L : Int} (a : Cls h (R, S, c, G, b, T, L)) (k : okS (R, S, c, G, b, T, L)) {n : Int} (hn : inI n) (h0 : 0 ≤ n ∧ n < blk R) : am_X 6 126 0 (am_ent 126 [.ref 0, .int (iI n)]) [] h (Cout h (lc (vl R 2) 48 (fro R n) (fro R (n + 1))) (R, S, c, G, b, T, L)) := by
  show am_X 6 126 0 [.ref 0, .int (iI n)] [] h _
  obtain ⟨o, hH, ⟨R2, hH2⟩, hF, hS, hP, hU, hHi, hSl, pos, le, fi, se, hT⟩ := id a
  have hH : Herd h 1 R := hH
  have hHi : Hist h 33 S c := hHi
  have hSl : Slot h 105 G b := hSl
  have hT : Tx h 118 T L pos le fi se := hT
  have i : inv R := k.1
  obtain ⟨nx, M, f, ho, he, hoa, hm, hrg⟩ := id hHi
  obtain ⟨kl1, kl2⟩ : 0 ≤ L ∧ L ≤ 120 := k.2.2.2.2.2.1
  obtain ⟨kc1, kc2⟩ : 0 ≤ c ∧ c ≤ 14 := k.2.2.1
  refine ax_aload_n f126_0 rfl ?_
  refine ax_getf f126_1 o rfl ?_
  refine ax_iload_n f126_4 rfl ?_
  refine ax_cvI (rest := []) f126_5 hH.2.1.1 rfl rfl rfl rfl rfl rfl rfl rfl (c_49 hH.2.1 i.ff i.b12 hn) ?_
  intro _ e_
  obtain rfl := e_.symm
  clear e_
  rw [b2i_t h0]
  refine ax_if_ne f126_8 rfl ⟨by omega, by omega⟩ (fun q8 => ?_) (fun q8 => absurd q8 (by omega))
  refine ax_aload_n f126_21 rfl ?_
  refine ax_getf f126_22 o rfl ?_
  refine ax_aload_n f126_25 rfl ?_
  refine ax_getf f126_26 o rfl ?_
  refine ax_iload_n f126_29 rfl ?_
  refine ax_cvI (rest := []) f126_30 hP.1.choose_spec.choose_spec rfl rfl rfl rfl rfl rfl rfl rfl (c_72 hP hH.2.1 i (by omega) h0.1 h0.2) ?_
  rintro h9 ⟨p9, f9⟩
  obtain ⟨g1, g2⟩ := Cls_w a (f9.mono fun x e => by omega) (hS.fr f9 (fun x x1 x2 => by omega)) p9 (hU.mv f9 (by omega) (by omega))
  refine ax_ireturn f126_33 rfl rfl ?_
  exact ⟨rI_of rfl, g1, g2⟩
theorem k_127_1 {h : am_H} {R : Int → Int} {S : Int → Int → Int} {c : Int} {G : Nat → Int → Int} {b : Int → Int} {T : Int → Int} {L : Int} (a : Cls h (R, S, c, G, b, T, L)) (k : okS (R, S, c, G, b, T, L)) {n : Int} (hn : inI n) (h0 : ¬ (1 ≤ n ∧ n ≤ 11)) : am_X 4 127 0 (am_ent 127 [.ref 0, .int (iI n)]) [] h (Cthr h IAE (R, S, c, G, b, T, L)) := by
  show am_X 4 127 0 [.ref 0, .int (iI n)] [] h _
  obtain ⟨o, hH, ⟨R2, hH2⟩, hF, hS, hP, hU, hHi, hSl, pos, le, fi, se, hT⟩ := id a
  have hH : Herd h 1 R := hH
  have hHi : Hist h 33 S c := hHi
  have hSl : Slot h 105 G b := hSl
  have hT : Tx h 118 T L pos le fi se := hT
  have i : inv R := k.1
  obtain ⟨nx, M, f, ho, he, hoa, hm, hrg⟩ := id hHi
  obtain ⟨kl1, kl2⟩ : 0 ≤ L ∧ L ≤ 120 := k.2.2.2.2.2.1
  obtain ⟨kc1, kc2⟩ : 0 ≤ c ∧ c ≤ 14 := k.2.2.1
  refine ax_iload_n f127_0 rfl ?_
  refine ax_csI (rest := []) f127_1 (Or.inl rfl) rfl rfl rfl rfl rfl rfl (c_138 hn) ?_
  intro _ e_
  obtain rfl := e_.symm
  clear e_
  rw [b2i_f h0]
  refine ax_if_ne f127_4 rfl ⟨by omega, by omega⟩ (fun q4 => absurd q4 (by omega)) (fun q4 => ?_)
  refine ax_throw f127_7 rfl ?_
  exact ⟨rfl, _, rfl, a, fr_rf⟩
theorem k_127 {h : am_H} {R : Int → Int} {S : Int → Int → Int} {c : Int} {G : Nat → Int → Int} {b : Int → Int} {T : Int → Int} {L : Int} (a : Cls h (R, S, c, G, b, T, L)) (k : okS (R, S, c, G, b, T, L)) {n : Int} (hn : inI n) (h0 : 1 ≤ n ∧ n ≤ 11) : am_X 4 127 0 (am_ent 127 [.ref 0, .int (iI n)]) [] h (Cout h (bal R n) (R, S, c, G, b, T, L)) := by
  show am_X 4 127 0 [.ref 0, .int (iI n)] [] h _
  obtain ⟨o, hH, ⟨R2, hH2⟩, hF, hS, hP, hU, hHi, hSl, pos, le, fi, se, hT⟩ := id a
  have hH : Herd h 1 R := hH
  have hHi : Hist h 33 S c := hHi
  have hSl : Slot h 105 G b := hSl
  have hT : Tx h 118 T L pos le fi se := hT
  have i : inv R := k.1
  obtain ⟨nx, M, f, ho, he, hoa, hm, hrg⟩ := id hHi
  obtain ⟨kl1, kl2⟩ : 0 ≤ L ∧ L ≤ 120 := k.2.2.2.2.2.1
  obtain ⟨kc1, kc2⟩ : 0 ≤ c ∧ c ≤ 14 := k.2.2.1
  refine ax_iload_n f127_0 rfl ?_
  refine ax_csI (rest := []) f127_1 (Or.inl rfl) rfl rfl rfl rfl rfl rfl (c_138 hn) ?_
  intro _ e_
  obtain rfl := e_.symm
  clear e_
  rw [b2i_t h0]
  refine ax_if_ne f127_4 rfl ⟨by omega, by omega⟩ (fun q4 => ?_) (fun q4 => absurd q4 (by omega))
  refine ax_aload_n f127_18 rfl ?_
  refine ax_getf f127_19 o rfl ?_
  refine ax_iload_n f127_22 rfl ?_
  refine ax_cvI (rest := []) f127_23 hH.2.1.1 rfl rfl rfl rfl rfl rfl rfl rfl (c_65 hH.2.1 i.1.1 (by omega) hn) ?_
  intro _ e_
  obtain rfl := e_.symm
  clear e_
  refine ax_ireturn f127_26 rfl rfl ?_
  exact ⟨rI_of (rfl), a, fr_rf⟩
theorem k_128_1 {h : am_H} {R : Int → Int} {S : Int → Int → Int} {c : Int} {G : Nat → Int → Int} {b : Int → Int} {T : Int → Int} {L : Int} (a : Cls h (R, S, c, G, b, T, L)) (k : okS (R, S, c, G, b, T, L)) {n : Int} (hn : inI n) (h0 : ¬ (0 ≤ n ∧ n < blk R)) : am_X 4 128 0 (am_ent 128 [.ref 0, .int (iI n)]) [] h (Cthr h IOB (R, S, c, G, b, T, L)) := by
  show am_X 4 128 0 [.ref 0, .int (iI n)] [] h _
  obtain ⟨o, hH, ⟨R2, hH2⟩, hF, hS, hP, hU, hHi, hSl, pos, le, fi, se, hT⟩ := id a
  have hH : Herd h 1 R := hH
  have hHi : Hist h 33 S c := hHi
  have hSl : Slot h 105 G b := hSl
  have hT : Tx h 118 T L pos le fi se := hT
  have i : inv R := k.1
  obtain ⟨nx, M, f, ho, he, hoa, hm, hrg⟩ := id hHi
  obtain ⟨kl1, kl2⟩ : 0 ≤ L ∧ L ≤ 120 := k.2.2.2.2.2.1
  obtain ⟨kc1, kc2⟩ : 0 ≤ c ∧ c ≤ 14 := k.2.2.1
  refine ax_aload_n f128_0 rfl ?_
  refine ax_getf f128_1 o rfl ?_
  refine ax_iload_n f128_4 rfl ?_
  refine ax_cvI (rest := []) f128_5 hH.2.1.1 rfl rfl rfl rfl rfl rfl rfl rfl (c_49 hH.2.1 i.ff i.b12 hn) ?_
  intro _ e_
  obtain rfl := e_.symm
  clear e_
  rw [b2i_f h0]
  refine ax_if_ne f128_8 rfl ⟨by omega, by omega⟩ (fun q8 => absurd q8 (by omega)) (fun q8 => ?_)
  refine ax_throw f128_11 rfl ?_
  exact ⟨rfl, _, rfl, a, fr_rf⟩
theorem k_128_2 {h : am_H} {R : Int → Int} {S : Int → Int → Int} {c : Int} {G : Nat → Int → Int} {b : Int → Int} {T : Int → Int} {L : Int} (a : Cls h (R, S, c, G, b, T, L)) (k : okS (R, S, c, G, b, T, L)) {n : Int} (hn : inI n) (h0 : 0 ≤ n ∧ n < blk R) (h1 : R 192 = 0) : am_X 4 128 0 (am_ent 128 [.ref 0, .int (iI n)]) [] h (Cthr h ISE (R, S, c, G, b, T, L)) := by
  show am_X 4 128 0 [.ref 0, .int (iI n)] [] h _
  obtain ⟨o, hH, ⟨R2, hH2⟩, hF, hS, hP, hU, hHi, hSl, pos, le, fi, se, hT⟩ := id a
  have hH : Herd h 1 R := hH
  have hHi : Hist h 33 S c := hHi
  have hSl : Slot h 105 G b := hSl
  have hT : Tx h 118 T L pos le fi se := hT
  have i : inv R := k.1
  obtain ⟨nx, M, f, ho, he, hoa, hm, hrg⟩ := id hHi
  obtain ⟨kl1, kl2⟩ : 0 ≤ L ∧ L ≤ 120 := k.2.2.2.2.2.1
  obtain ⟨kc1, kc2⟩ : 0 ≤ c ∧ c ≤ 14 := k.2.2.1
  refine ax_aload_n f128_0 rfl ?_
  refine ax_getf f128_1 o rfl ?_
  refine ax_iload_n f128_4 rfl ?_
  refine ax_cvI (rest := []) f128_5 hH.2.1.1 rfl rfl rfl rfl rfl rfl rfl rfl (c_49 hH.2.1 i.ff i.b12 hn) ?_
  intro _ e_
  obtain rfl := e_.symm
  clear e_
  rw [b2i_t h0]
  refine ax_if_ne f128_8 rfl ⟨by omega, by omega⟩ (fun q8 => ?_) (fun q8 => absurd q8 (by omega))
  refine ax_aload_n f128_21 rfl ?_
  refine ax_getf f128_22 o rfl ?_
  refine ax_getf f128_25 hH.2.1.1 rfl ?_
  refine ax_if_ne f128_28 rfl ⟨by omega, by omega⟩ (fun q28 => absurd q28 (by omega)) (fun q28 => ?_)
  refine ax_throw f128_31 rfl ?_
  exact ⟨rfl, _, rfl, a, fr_rf⟩
theorem k_128 {h : am_H} {R : Int → Int} {S : Int → Int → Int} {c : Int} {G : Nat → Int → Int} {b : Int → Int} {T : Int → Int} {L : Int} (a : Cls h (R, S, c, G, b, T, L)) (k : okS (R, S, c, G, b, T, L)) {n : Int} (hn : inI n) (h0 : 0 ≤ n ∧ n < blk R) (h1 : ¬ R 192 = 0) : am_X 4 128 0 (am_ent 128 [.ref 0, .int (iI n)]) [] h (Cout h (csm R (fro R n) (fro R (n + 1)) (R (193 + n))) (R, S, c, G, b, T, L)) := by
  show am_X 4 128 0 [.ref 0, .int (iI n)] [] h _
  obtain ⟨o, hH, ⟨R2, hH2⟩, hF, hS, hP, hU, hHi, hSl, pos, le, fi, se, hT⟩ := id a
  have hH : Herd h 1 R := hH
  have hHi : Hist h 33 S c := hHi
  have hSl : Slot h 105 G b := hSl
  have hT : Tx h 118 T L pos le fi se := hT
  have i : inv R := k.1
  obtain ⟨nx, M, f, ho, he, hoa, hm, hrg⟩ := id hHi
  obtain ⟨kl1, kl2⟩ : 0 ≤ L ∧ L ≤ 120 := k.2.2.2.2.2.1
  obtain ⟨kc1, kc2⟩ : 0 ≤ c ∧ c ≤ 14 := k.2.2.1
  have itd := i.td
  obtain ⟨b1, b2, b3⟩ := fro_lt i.ff h0.1 h0.2
  have b4 := (fro_sp i.ff n).1
  have b5 := (fro_sp i.ff (n + 1)).2.1
  have c01 := csm_01 i.1.1 (v := R (193 + n)) b4 (by omega) b5
  have hb := i.b12
  have hsu := i.su h0.1 (by omega)
  refine ax_aload_n f128_0 rfl ?_
  refine ax_getf f128_1 o rfl ?_
  refine ax_iload_n f128_4 rfl ?_
  refine ax_cvI (rest := []) f128_5 hH.2.1.1 rfl rfl rfl rfl rfl rfl rfl rfl (c_49 hH.2.1 i.ff i.b12 hn) ?_
  intro _ e_
  obtain rfl := e_.symm
  clear e_
  rw [b2i_t h0]
  refine ax_if_ne f128_8 rfl ⟨by omega, by omega⟩ (fun q8 => ?_) (fun q8 => absurd q8 (by omega))
  refine ax_aload_n f128_21 rfl ?_
  refine ax_getf f128_22 o rfl ?_
  refine ax_getf f128_25 hH.2.1.1 rfl ?_
  refine ax_if_ne f128_28 rfl ⟨by omega, by omega⟩ (fun q28 => ?_) (fun q28 => absurd q28 (by omega))
  refine ax_aload_n f128_41 rfl ?_
  refine ax_getf f128_42 o rfl ?_
  refine ax_aload_n f128_45 rfl ?_
  refine ax_getf f128_46 o rfl ?_
  refine ax_iload_n f128_49 rfl ?_
  refine ax_aload_n f128_50 rfl ?_
  refine ax_getf f128_51 o rfl ?_
  refine ax_iload_n f128_54 rfl ?_
  refine ax_cvI (rest := [_, _, _]) f128_55 hH.2.1.1 rfl rfl rfl rfl rfl rfl rfl rfl (c_47 hH.2.1 h0.1 (by omega)) ?_
  intro _ e_
  obtain rfl := e_.symm
  clear e_
  refine ax_cvI (rest := []) f128_58 hU.1 rfl rfl rfl rfl rfl rfl rfl rfl (c_92 hU hH.2.1 i (by omega) h0.1 h0.2 ⟨by omega, by omega⟩) ?_
  rintro h9 ⟨p9, f9⟩
  have f9 : fr (fun x => x = 32) h h9 := f9
  obtain ⟨g1, g2⟩ := Cls_w a (f9.mono fun x e => by omega) (hS.fr f9 (fun x x1 x2 => by omega)) (hP.mv f9 (fun x x1 x2 => by omega)) p9
  refine ax_if_eq f128_61 rfl ⟨by omega, by omega⟩ (fun q61 => ?_) (fun q61 => ?_)
  · refine ax_iconst f128_68 ?_
    refine ax_ireturn f128_69 rfl rfl ?_
    exact ⟨rI_of (by omega), g1, g2⟩
  · refine ax_iconst f128_64 ?_
    refine ax_goto f128_65 rfl ?_
    refine ax_ireturn f128_69 rfl rfl ?_
    exact ⟨rI_of (by omega), g1, g2⟩
end WLD
