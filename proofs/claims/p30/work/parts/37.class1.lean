/-! ===== the whole of the class ===== -/
section CLS
/-- the state: the meadow, the states remembered and how many, the states saved and whether, the text and its length -/
abbrev St : Type := (Int → Int) × (Int → Int → Int) × Int × (Nat → Int → Int) × (Int → Int) × (Int → Int) × Int
def Cfs : List Value := [.ref 1, .ref 2, .ref 10, .ref 11, .ref 19, .ref 24, .ref 27, .ref 31, .ref 33, .ref 105, .ref 118]
def Cls (h : am_H) (s : St) : Prop := h.1[0]? = some (.inr (9, Cfs)) ∧ Herd h 1 s.1 ∧ (∃ R2, Herd h 10 R2) ∧ Mead h 19 beg ∧ Srch h 24 ∧ Plan h 27 ∧ Subs h 31 ∧ Hist h 33 s.2.1 s.2.2.1 ∧ Slot h 105 s.2.2.2.1 s.2.2.2.2.1 ∧ ∃ pos le fi se, Tx h 118 s.2.2.2.2.2.1 s.2.2.2.2.2.2 pos le fi se
/-- what holds of all states -/
def okS (s : St) : Prop := inv s.1 ∧ (∀ k, 0 ≤ k → k < s.2.2.1 → inv (s.2.1 k)) ∧ (0 ≤ s.2.2.1 ∧ s.2.2.1 ≤ 14) ∧ (∀ i : Nat, i < 2 → s.2.2.2.2.1 i = 1 → inv (s.2.2.2.1 i)) ∧ (∀ j, 0 ≤ j → j < 2 → s.2.2.2.2.1 j = 0 ∨ s.2.2.2.2.1 j = 1) ∧ (0 ≤ s.2.2.2.2.2.2 ∧ s.2.2.2.2.2.2 ≤ 120) ∧ ∀ j, 0 ≤ j → j < s.2.2.2.2.2.2 → 0 ≤ s.2.2.2.2.2.1 j ∧ s.2.2.2.2.2.1 j ≤ 255
def FC (q : Nat) : Prop := q < 120
/-- how calls of the class end: an answer, a throw -/
def Cout (h : am_H) (v : Int) (s : St) (r : am_R) (h' : am_H) : Prop := rI r v ∧ Cls h' s ∧ fr FC h h'
def Cthr (h : am_H) (E : String) (s : St) (r : am_R) (h' : am_H) : Prop := r = .inr E ∧ ∃ h2, h' = am_bump h2 ∧ Cls h2 s ∧ fr FC h h2
section MOV
variable {h h1 h' : am_H} {R R' : Int → Int} {S S' : Int → Int → Int} {c c' : Int} {G : Nat → Int → Int} {b : Int → Int} {T : Int → Int} {L : Int}
/-- the ring of states and the meadow changed -/
theorem Cls_hm (a : Cls h (R, S, c, G, b, T, L)) (f1 : fr (HiS 33) h h1) (a1 : Hist h1 33 S' c') (f2 : fr (HS 1) h1 h') (a2 : Herd h' 1 R') : Cls h' (R', S', c', G, b, T, L) ∧ fr FC h h' := by
  obtain ⟨o, hH, ⟨R2, hH2⟩, hF, hS, hP, hU, hHi, hSl, pos, le, fi, se, hT⟩ := a
  have F : fr (fun q => HiS 33 q ∨ HS 1 q) h h' := (f1.mono fun x e => Or.inl e).trans (f2.mono fun x e => Or.inr e)
  refine ⟨⟨F.at (by unfold HiS HS; omega) o, a2, ⟨R2, hH2.mv F (fun x x1 x2 => by unfold HiS HS; omega)⟩, hF.fr F (fun x x1 x2 => by unfold HiS HS; omega), hS.fr F (fun x x1 x2 => by unfold HiS HS; omega), hP.mv F (fun x x1 x2 => by unfold HiS HS; omega), hU.mv F (by unfold HiS HS; omega) (by unfold HiS HS; omega), a1.mv f2 (fun q hq => by unfold HiS at hq; unfold HS; omega), hSl.mv F (fun q hq => by unfold SlS at hq; unfold HiS HS; omega), pos, le, fi, se, hT.mv F (by unfold HiS HS; omega) (by unfold HiS HS; omega)⟩, F.mono (fun q e => by unfold HiS HS at e; unfold FC; omega)⟩
/-- the meadow alone changed -/
theorem Cls_m (a : Cls h (R, S, c, G, b, T, L)) (f2 : fr (HS 1) h h') (a2 : Herd h' 1 R') : Cls h' (R', S, c, G, b, T, L) ∧ fr FC h h' :=
  Cls_hm a fr_rf a.2.2.2.2.2.2.2.1 f2 a2
/-- what searches and planners leave behind -/
theorem Cls_w {s : St} (a : Cls h s) (F : fr (fun q => 24 ≤ q ∧ q ≤ 32) h h') (hS : Srch h' 24) (hP : Plan h' 27) (hU : Subs h' 31) : Cls h' s ∧ fr FC h h' := by
  obtain ⟨o, hH, ⟨R2, hH2⟩, hF, _, _, _, hHi, hSl, pos, le, fi, se, hT⟩ := a
  exact ⟨⟨F.at (by omega) o, hH.mv F (fun x x1 x2 => by omega), ⟨R2, hH2.mv F (fun x x1 x2 => by omega)⟩, hF.fr F (fun x x1 x2 => by omega), hS, hP, hU, hHi.mv F (fun q hq => by unfold HiS at hq; omega), hSl.mv F (fun q hq => by unfold SlS at hq; omega), pos, le, fi, se, hT.mv F (by omega) (by omega)⟩, F.mono (fun q e => by unfold FC; omega)⟩
/-- the text changed -/
theorem Cls_t {T' : Int → Int} {L' : Int} (a : Cls h (R, S, c, G, b, T, L)) (F : fr (fun q => q = 118 ∨ q = 119) h h') (hT : ∃ pos le fi se, Tx h' 118 T' L' pos le fi se) : Cls h' (R, S, c, G, b, T', L') ∧ fr FC h h' := by
  obtain ⟨o, hH, ⟨R2, hH2⟩, hF, hS, hP, hU, hHi, hSl, _⟩ := a
  exact ⟨⟨F.at (by omega) o, hH.mv F (fun x x1 x2 => by omega), ⟨R2, hH2.mv F (fun x x1 x2 => by omega)⟩, hF.fr F (fun x x1 x2 => by omega), hS.fr F (fun x x1 x2 => by omega), hP.mv F (fun x x1 x2 => by omega), hU.mv F (by omega) (by omega), hHi.mv F (fun q hq => by unfold HiS at hq; omega), hSl.mv F (fun q hq => by unfold SlS at hq; omega), hT⟩, F.mono (fun q e => by unfold FC; omega)⟩
/-- the trial changed -/
theorem Cls_r {s : St} (a : Cls h s) (F : fr (fun q => 10 ≤ q ∧ q ≤ 18) h h') (hH2 : ∃ R2, Herd h' 10 R2) : Cls h' s ∧ fr FC h h' := by
  obtain ⟨o, hH, _, hF, hS, hP, hU, hHi, hSl, pos, le, fi, se, hT⟩ := a
  exact ⟨⟨F.at (by omega) o, hH.mv F (fun x x1 x2 => by omega), hH2, hF.fr F (fun x x1 x2 => by omega), hS.fr F (fun x x1 x2 => by omega), hP.mv F (fun x x1 x2 => by omega), hU.mv F (by omega) (by omega), hHi.mv F (fun q hq => by unfold HiS at hq; omega), hSl.mv F (fun q hq => by unfold SlS at hq; omega), pos, le, fi, se, hT.mv F (by omega) (by omega)⟩, F.mono (fun q e => by unfold FC; omega)⟩
/-- the slots changed -/
theorem Cls_l {G' : Nat → Int → Int} {b' : Int → Int} (a : Cls h (R, S, c, G, b, T, L)) (F : fr (SlS 105) h h') (hSl : Slot h' 105 G' b') : Cls h' (R, S, c, G', b', T, L) ∧ fr FC h h' := by
  obtain ⟨o, hH, ⟨R2, hH2⟩, hF, hS, hP, hU, hHi, _, pos, le, fi, se, hT⟩ := a
  exact ⟨⟨F.at (by unfold SlS; omega) o, hH.mv F (fun x x1 x2 => by unfold SlS; omega), ⟨R2, hH2.mv F (fun x x1 x2 => by unfold SlS; omega)⟩, hF.fr F (fun x x1 x2 => by unfold SlS; omega), hS.fr F (fun x x1 x2 => by unfold SlS; omega), hP.mv F (fun x x1 x2 => by unfold SlS; omega), hU.mv F (by unfold SlS; omega) (by unfold SlS; omega), hHi.mv F (fun q hq => by unfold HiS at hq; unfold SlS; omega), hSl, pos, le, fi, se, hT.mv F (by unfold SlS; omega) (by unfold SlS; omega)⟩, F.mono (fun q e => by unfold SlS at e; unfold FC; omega)⟩
end MOV
def IAE : String := "java/lang/IllegalArgumentException"
def ISE : String := "java/lang/IllegalStateException"
def IOB : String := "java/lang/IndexOutOfBoundsException"
theorem vp_nar_c_ {v : Int} (h1 : 0 ≤ v) (h2 : v < 65536) : ((iI v).toUInt32 % 65536).toInt32 = iI v := by
  have e1 : iI v = nI v.toNat := by
    rw [← Int32.toInt_inj, iI_toInt ⟨by omega, by omega⟩, nI_toInt (by omega)]
    omega
  have e2 : ∀ x : UInt32, x % 65536 = x.toUInt16.toUInt32 := fun x => by
    apply UInt32.toNat_inj.mp
    rw [UInt32.toNat_mod, UInt16.toNat_toUInt32, UInt32.toNat_toUInt16]; rfl
  rw [e1, e2, fb_char (by omega)]
/-- the numbers of the meadow -/
def abt (R : Int → Int) (w : Int) : Int := if w = 0 then blk R else if w = 1 then sm (fun j => R (48 + j)) 0 48 else if w = 2 then bok R 0 48 else if w = 3 then fld R 0 48 else if w = 4 then R 192 else if w = 5 then R 217 else if w = 6 then R 266 else if w = 7 then R 267 else if w = 8 then R 268 else if w = 9 then R 269 else sm (fun j => R (96 + j)) 0 48
theorem k_111 {h : am_H} {R : Int → Int} {S : Int → Int → Int} {c : Int} {G : Nat → Int → Int} {b : Int → Int} {T : Int → Int} {L : Int} (a : Cls h (R, S, c, G, b, T, L)) (k : okS (R, S, c, G, b, T, L)) {z : Int} (h0 : 0 ≤ z ∧ z ≤ 10) : am_X 2 111 0 (am_ent 111 [.ref 0, .int (iI z)]) [] h (Cout h (abt R z) (R, S, c, G, b, T, L)) := by
  show am_X 2 111 0 [.ref 0, .int (iI z)] [] h _
  obtain ⟨o, hH, ⟨R2, hH2⟩, hF, hS, hP, hU, hHi, hSl, pos, le, fi, se, hT⟩ := id a
  have hH : Herd h 1 R := hH
  have hHi : Hist h 33 S c := hHi
  have hSl : Slot h 105 G b := hSl
  have hT : Tx h 118 T L pos le fi se := hT
  have i : inv R := k.1
  obtain ⟨kl1, kl2⟩ : 0 ≤ L ∧ L ≤ 120 := k.2.2.2.2.2.1
  obtain ⟨kc1, kc2⟩ : 0 ≤ c ∧ c ≤ 14 := k.2.2.1
  rcases (show z = 0 ∨ z = 1 ∨ z = 2 ∨ z = 3 ∨ z = 4 ∨ z = 5 ∨ z = 6 ∨ z = 7 ∨ z = 8 ∨ z = 9 ∨ z = 10 by omega) with hc | hc | hc | hc | hc | hc | hc | hc | hc | hc | hc
  · subst hc
    refine ax_iload_n f111_0 rfl ?_
    refine ax_tswI f111_1 ⟨by omega, by omega⟩ (by omega) (by omega) rfl rfl ?_
    refine ax_aload_n f111_60 rfl ?_
    refine ax_getf f111_61 o rfl ?_
    refine ax_cvI (rest := []) f111_64 hH.2.1.1 rfl rfl rfl rfl rfl rfl rfl rfl (c_48 hH.2.1 i.ff) ?_
    intro _ e_
    obtain rfl := e_.symm
    clear e_
    refine ax_ireturn f111_67 rfl rfl ?_
    exact ⟨rI_of (rfl), a, fr_rf⟩
  · subst hc
    refine ax_iload_n f111_0 rfl ?_
    refine ax_tswI f111_1 ⟨by omega, by omega⟩ (by omega) (by omega) rfl rfl ?_
    refine ax_aload_n f111_68 rfl ?_
    refine ax_getf f111_69 o rfl ?_
    refine ax_getf f111_72 hH.2.1.1 rfl ?_
    refine ax_csI (rest := []) f111_75 (Or.inl rfl) rfl rfl rfl rfl rfl rfl (c_bit01 (fun j j1 j2 => i.aw j1 j2)) ?_
    intro _ e_
    obtain rfl := e_.symm
    clear e_
    refine ax_ireturn f111_78 rfl rfl ?_
    exact ⟨rI_of (rfl), a, fr_rf⟩
  · subst hc
    refine ax_iload_n f111_0 rfl ?_
    refine ax_tswI f111_1 ⟨by omega, by omega⟩ (by omega) (by omega) rfl rfl ?_
    refine ax_aload_n f111_79 rfl ?_
    refine ax_getf f111_80 o rfl ?_
    refine ax_iconst f111_83 ?_
    refine ax_bipush f111_84 ?_
    refine ax_cvI (rest := []) f111_86 hH.2.1.1 rfl rfl rfl rfl rfl rfl rfl rfl (c_52 hH.2.1 (by omega) (by omega) (by omega)) ?_
    intro _ e_
    obtain rfl := e_.symm
    clear e_
    refine ax_ireturn f111_89 rfl rfl ?_
    exact ⟨rI_of (rfl), a, fr_rf⟩
  · subst hc
    refine ax_iload_n f111_0 rfl ?_
    refine ax_tswI f111_1 ⟨by omega, by omega⟩ (by omega) (by omega) rfl rfl ?_
    refine ax_aload_n f111_90 rfl ?_
    refine ax_getf f111_91 o rfl ?_
    refine ax_iconst f111_94 ?_
    refine ax_bipush f111_95 ?_
    refine ax_cvI (rest := []) f111_97 hH.2.1.1 rfl rfl rfl rfl rfl rfl rfl rfl (c_53 hH.2.1 i.1.2.1 (by omega) (by omega) (by omega)) ?_
    intro _ e_
    obtain rfl := e_.symm
    clear e_
    refine ax_ireturn f111_100 rfl rfl ?_
    exact ⟨rI_of (rfl), a, fr_rf⟩
  · subst hc
    refine ax_iload_n f111_0 rfl ?_
    refine ax_tswI f111_1 ⟨by omega, by omega⟩ (by omega) (by omega) rfl rfl ?_
    refine ax_aload_n f111_101 rfl ?_
    refine ax_getf f111_102 o rfl ?_
    refine ax_getf f111_105 hH.2.1.1 rfl ?_
    refine ax_if_eq f111_108 rfl ⟨by have := i.td; omega, by have := i.td; omega⟩ (fun q108 => ?_) (fun q108 => ?_)
    · refine ax_iconst f111_115 ?_
      refine ax_ireturn f111_116 rfl rfl ?_
      exact ⟨rI_of (by rw [show abt R 4 = R 192 from rfl]; have := i.td; omega), a, fr_rf⟩
    · refine ax_iconst f111_111 ?_
      refine ax_goto f111_112 rfl ?_
      refine ax_ireturn f111_116 rfl rfl ?_
      exact ⟨rI_of (by rw [show abt R 4 = R 192 from rfl]; have := i.td; omega), a, fr_rf⟩
  · subst hc
    refine ax_iload_n f111_0 rfl ?_
    refine ax_tswI f111_1 ⟨by omega, by omega⟩ (by omega) (by omega) rfl rfl ?_
    refine ax_aload_n f111_117 rfl ?_
    refine ax_getf f111_118 o rfl ?_
    refine ax_getf f111_121 hH.2.1.1 rfl ?_
    refine ax_ireturn f111_124 rfl rfl ?_
    exact ⟨rI_of (rfl), a, fr_rf⟩
  · subst hc
    refine ax_iload_n f111_0 rfl ?_
    refine ax_tswI f111_1 ⟨by omega, by omega⟩ (by omega) (by omega) rfl rfl ?_
    refine ax_aload_n f111_125 rfl ?_
    refine ax_getf f111_126 o rfl ?_
    refine ax_getf f111_129 hH.2.1.1 rfl ?_
    refine ax_csI (rest := []) f111_132 (Or.inl rfl) rfl rfl rfl rfl rfl rfl (c_bit01 (fun j j1 j2 => i.tk j1 j2)) ?_
    intro _ e_
    obtain rfl := e_.symm
    clear e_
    refine ax_ireturn f111_135 rfl rfl ?_
    exact ⟨rI_of (i.mn.symm), a, fr_rf⟩
  · subst hc
    refine ax_iload_n f111_0 rfl ?_
    refine ax_tswI f111_1 ⟨by omega, by omega⟩ (by omega) (by omega) rfl rfl ?_
    refine ax_aload_n f111_136 rfl ?_
    refine ax_getf f111_137 o rfl ?_
    refine ax_getf f111_140 hH.2.1.1 rfl ?_
    refine ax_ireturn f111_143 rfl rfl ?_
    exact ⟨rI_of (rfl), a, fr_rf⟩
  · subst hc
    refine ax_iload_n f111_0 rfl ?_
    refine ax_tswI f111_1 ⟨by omega, by omega⟩ (by omega) (by omega) rfl rfl ?_
    refine ax_aload_n f111_144 rfl ?_
    refine ax_getf f111_145 o rfl ?_
    refine ax_getf f111_148 hH.2.1.1 rfl ?_
    refine ax_ireturn f111_151 rfl rfl ?_
    exact ⟨rI_of (rfl), a, fr_rf⟩
  · subst hc
    refine ax_iload_n f111_0 rfl ?_
    refine ax_tswI f111_1 ⟨by omega, by omega⟩ (by omega) (by omega) rfl rfl ?_
    refine ax_aload_n f111_152 rfl ?_
    refine ax_getf f111_153 o rfl ?_
    refine ax_getf f111_156 hH.2.1.1 rfl ?_
    refine ax_ireturn f111_159 rfl rfl ?_
    exact ⟨rI_of (rfl), a, fr_rf⟩
  · subst hc
    refine ax_iload_n f111_0 rfl ?_
    refine ax_tswI f111_1 ⟨by omega, by omega⟩ (by omega) (by omega) rfl rfl ?_
    refine ax_aload_n f111_160 rfl ?_
    refine ax_getf f111_161 o rfl ?_
    refine ax_cvI (rest := []) f111_164 hH.2.1.1 rfl rfl rfl rfl rfl rfl rfl rfl (c_54 hH.2.1) ?_
    intro _ e_
    obtain rfl := e_.symm
    clear e_
    refine ax_ireturn f111_167 rfl rfl ?_
    exact ⟨rI_of (rfl), a, fr_rf⟩
theorem k_111_1 {h : am_H} {R : Int → Int} {S : Int → Int → Int} {c : Int} {G : Nat → Int → Int} {b : Int → Int} {T : Int → Int} {L : Int} (a : Cls h (R, S, c, G, b, T, L)) (k : okS (R, S, c, G, b, T, L)) {z : Int} (hz : inI z) (h0 : ¬ (0 ≤ z ∧ z ≤ 10)) : am_X 2 111 0 (am_ent 111 [.ref 0, .int (iI z)]) [] h (Cthr h IAE (R, S, c, G, b, T, L)) := by
  show am_X 2 111 0 [.ref 0, .int (iI z)] [] h _
  obtain ⟨o, hH, ⟨R2, hH2⟩, hF, hS, hP, hU, hHi, hSl, pos, le, fi, se, hT⟩ := id a
  have hH : Herd h 1 R := hH
  have hHi : Hist h 33 S c := hHi
  have hSl : Slot h 105 G b := hSl
  have hT : Tx h 118 T L pos le fi se := hT
  have i : inv R := k.1
  obtain ⟨kl1, kl2⟩ : 0 ≤ L ∧ L ≤ 120 := k.2.2.2.2.2.1
  obtain ⟨kc1, kc2⟩ : 0 ≤ c ∧ c ≤ 14 := k.2.2.1
  obtain ⟨hz1, hz2⟩ := hz
  refine ax_iload_n f111_0 rfl ?_
  refine ax_tswO f111_1 ⟨by omega, by omega⟩ (by omega) rfl ?_
  refine ax_throw f111_168 rfl ?_
  exact ⟨rfl, _, rfl, a, fr_rf⟩
/-- the numbers of a row -/
def rof (R : Int → Int) (r w : Int) : Int := if w = 0 then R r else if w = 1 then R (48 + r) else if w = 2 then R (96 + r) else if w = 3 then bat R r else R (218 + r)
theorem k_112_1 {h : am_H} {R : Int → Int} {S : Int → Int → Int} {c : Int} {G : Nat → Int → Int} {b : Int → Int} {T : Int → Int} {L : Int} (a : Cls h (R, S, c, G, b, T, L)) (k : okS (R, S, c, G, b, T, L)) {r0 z : Int} (hr : inI r0) (h0 : ¬ (0 ≤ r0 ∧ r0 < 48)) : am_X 2 112 0 (am_ent 112 [.ref 0, .int (iI r0), .int (iI z)]) [] h (Cthr h IOB (R, S, c, G, b, T, L)) := by
  show am_X 2 112 0 [.ref 0, .int (iI r0), .int (iI z)] [] h _
  obtain ⟨o, hH, ⟨R2, hH2⟩, hF, hS, hP, hU, hHi, hSl, pos, le, fi, se, hT⟩ := id a
  have hH : Herd h 1 R := hH
  have hHi : Hist h 33 S c := hHi
  have hSl : Slot h 105 G b := hSl
  have hT : Tx h 118 T L pos le fi se := hT
  have i : inv R := k.1
  obtain ⟨kl1, kl2⟩ : 0 ≤ L ∧ L ≤ 120 := k.2.2.2.2.2.1
  obtain ⟨kc1, kc2⟩ : 0 ≤ c ∧ c ≤ 14 := k.2.2.1
  refine ax_iload_n f112_0 rfl ?_
  refine ax_csI (rest := []) f112_1 (Or.inl rfl) rfl rfl rfl rfl rfl rfl (c_134 hr) ?_
  intro _ e_
  obtain rfl := e_.symm
  clear e_
  rw [b2i_f h0]
  refine ax_if_ne f112_4 rfl ⟨by omega, by omega⟩ (fun q4 => absurd q4 (by omega)) (fun q4 => ?_)
  refine ax_throw f112_7 rfl ?_
  exact ⟨rfl, _, rfl, a, fr_rf⟩
theorem k_112_2 {h : am_H} {R : Int → Int} {S : Int → Int → Int} {c : Int} {G : Nat → Int → Int} {b : Int → Int} {T : Int → Int} {L : Int} (a : Cls h (R, S, c, G, b, T, L)) (k : okS (R, S, c, G, b, T, L)) {r0 z : Int} (h0 : 0 ≤ r0 ∧ r0 < 48) (hz : inI z) (h1 : ¬ (0 ≤ z ∧ z ≤ 4)) : am_X 2 112 0 (am_ent 112 [.ref 0, .int (iI r0), .int (iI z)]) [] h (Cthr h IAE (R, S, c, G, b, T, L)) := by
  show am_X 2 112 0 [.ref 0, .int (iI r0), .int (iI z)] [] h _
  obtain ⟨o, hH, ⟨R2, hH2⟩, hF, hS, hP, hU, hHi, hSl, pos, le, fi, se, hT⟩ := id a
  have hH : Herd h 1 R := hH
  have hHi : Hist h 33 S c := hHi
  have hSl : Slot h 105 G b := hSl
  have hT : Tx h 118 T L pos le fi se := hT
  have i : inv R := k.1
  obtain ⟨kl1, kl2⟩ : 0 ≤ L ∧ L ≤ 120 := k.2.2.2.2.2.1
  obtain ⟨kc1, kc2⟩ : 0 ≤ c ∧ c ≤ 14 := k.2.2.1
  obtain ⟨hz1, hz2⟩ := hz
  refine ax_iload_n f112_0 rfl ?_
  refine ax_csI (rest := []) f112_1 (Or.inl rfl) rfl rfl rfl rfl rfl rfl (c_134 ⟨by omega, by omega⟩) ?_
  intro _ e_
  obtain rfl := e_.symm
  clear e_
  rw [b2i_t h0]
  refine ax_if_ne f112_4 rfl ⟨by omega, by omega⟩ (fun q4 => ?_) (fun q4 => absurd q4 (by omega))
  refine ax_iload_n f112_17 rfl ?_
  refine ax_tswO f112_18 ⟨by omega, by omega⟩ (by omega) rfl ?_
  refine ax_throw f112_103 rfl ?_
  exact ⟨rfl, _, rfl, a, fr_rf⟩
theorem k_112 {h : am_H} {R : Int → Int} {S : Int → Int → Int} {c : Int} {G : Nat → Int → Int} {b : Int → Int} {T : Int → Int} {L : Int} (a : Cls h (R, S, c, G, b, T, L)) (k : okS (R, S, c, G, b, T, L)) {r0 z : Int} (h0 : 0 ≤ r0 ∧ r0 < 48) (h1 : 0 ≤ z ∧ z ≤ 4) : am_X 2 112 0 (am_ent 112 [.ref 0, .int (iI r0), .int (iI z)]) [] h (Cout h (rof R r0 z) (R, S, c, G, b, T, L)) := by
  show am_X 2 112 0 [.ref 0, .int (iI r0), .int (iI z)] [] h _
  obtain ⟨o, hH, ⟨R2, hH2⟩, hF, hS, hP, hU, hHi, hSl, pos, le, fi, se, hT⟩ := id a
  have hH : Herd h 1 R := hH
  have hHi : Hist h 33 S c := hHi
  have hSl : Slot h 105 G b := hSl
  have hT : Tx h 118 T L pos le fi se := hT
  have i : inv R := k.1
  obtain ⟨kl1, kl2⟩ : 0 ≤ L ∧ L ≤ 120 := k.2.2.2.2.2.1
  obtain ⟨kc1, kc2⟩ : 0 ≤ c ∧ c ≤ 14 := k.2.2.1
  rcases (show z = 0 ∨ z = 1 ∨ z = 2 ∨ z = 3 ∨ z = 4 by omega) with hc | hc | hc | hc | hc
  · subst hc
    refine ax_iload_n f112_0 rfl ?_
    refine ax_csI (rest := []) f112_1 (Or.inl rfl) rfl rfl rfl rfl rfl rfl (c_134 ⟨by omega, by omega⟩) ?_
    intro _ e_
    obtain rfl := e_.symm
    clear e_
    rw [b2i_t h0]
    refine ax_if_ne f112_4 rfl ⟨by omega, by omega⟩ (fun q4 => ?_) (fun q4 => absurd q4 (by omega))
    refine ax_iload_n f112_17 rfl ?_
    refine ax_tswI f112_18 ⟨by omega, by omega⟩ (by omega) (by omega) rfl rfl ?_
    refine ax_aload_n f112_52 rfl ?_
    refine ax_getf f112_53 o rfl ?_
    refine ax_iload_n f112_56 rfl ?_
    refine ax_cvI (rest := []) f112_57 hH.2.1.1 rfl rfl rfl rfl rfl rfl rfl rfl (c_43 hH.2.1 h0.1 h0.2) ?_
    intro _ e_
    obtain rfl := e_.symm
    clear e_
    refine ax_ireturn f112_60 rfl rfl ?_
    exact ⟨rI_of (rfl), a, fr_rf⟩
  · subst hc
    refine ax_iload_n f112_0 rfl ?_
    refine ax_csI (rest := []) f112_1 (Or.inl rfl) rfl rfl rfl rfl rfl rfl (c_134 ⟨by omega, by omega⟩) ?_
    intro _ e_
    obtain rfl := e_.symm
    clear e_
    rw [b2i_t h0]
    refine ax_if_ne f112_4 rfl ⟨by omega, by omega⟩ (fun q4 => ?_) (fun q4 => absurd q4 (by omega))
    refine ax_iload_n f112_17 rfl ?_
    refine ax_tswI f112_18 ⟨by omega, by omega⟩ (by omega) (by omega) rfl rfl ?_
    refine ax_aload_n f112_61 rfl ?_
    refine ax_getf f112_62 o rfl ?_
    refine ax_getf f112_65 hH.2.1.1 rfl ?_
    refine ax_iload_n f112_68 rfl ?_
    refine ax_csI (rest := []) f112_69 (Or.inl rfl) rfl rfl rfl rfl rfl rfl (c_bit h0.1 h0.2 (i.aw h0.1 h0.2)) ?_
    intro _ e_
    obtain rfl := e_.symm
    clear e_
    refine ax_ireturn f112_72 rfl rfl ?_
    exact ⟨rI_of (rfl), a, fr_rf⟩
  · subst hc
    refine ax_iload_n f112_0 rfl ?_
    refine ax_csI (rest := []) f112_1 (Or.inl rfl) rfl rfl rfl rfl rfl rfl (c_134 ⟨by omega, by omega⟩) ?_
    intro _ e_
    obtain rfl := e_.symm
    clear e_
    rw [b2i_t h0]
    refine ax_if_ne f112_4 rfl ⟨by omega, by omega⟩ (fun q4 => ?_) (fun q4 => absurd q4 (by omega))
    refine ax_iload_n f112_17 rfl ?_
    refine ax_tswI f112_18 ⟨by omega, by omega⟩ (by omega) (by omega) rfl rfl ?_
    refine ax_aload_n f112_73 rfl ?_
    refine ax_getf f112_74 o rfl ?_
    refine ax_iload_n f112_77 rfl ?_
    refine ax_cvI (rest := []) f112_78 hH.2.1.1 rfl rfl rfl rfl rfl rfl rfl rfl (c_44 hH.2.1 h0.1 h0.2) ?_
    intro _ e_
    obtain rfl := e_.symm
    clear e_
    refine ax_ireturn f112_81 rfl rfl ?_
    exact ⟨rI_of (rfl), a, fr_rf⟩
  · subst hc
    refine ax_iload_n f112_0 rfl ?_
    refine ax_csI (rest := []) f112_1 (Or.inl rfl) rfl rfl rfl rfl rfl rfl (c_134 ⟨by omega, by omega⟩) ?_
    intro _ e_
    obtain rfl := e_.symm
    clear e_
    rw [b2i_t h0]
    refine ax_if_ne f112_4 rfl ⟨by omega, by omega⟩ (fun q4 => ?_) (fun q4 => absurd q4 (by omega))
    refine ax_iload_n f112_17 rfl ?_
    refine ax_tswI f112_18 ⟨by omega, by omega⟩ (by omega) (by omega) rfl rfl ?_
    refine ax_aload_n f112_82 rfl ?_
    refine ax_getf f112_83 o rfl ?_
    refine ax_iload_n f112_86 rfl ?_
    refine ax_cvI (rest := []) f112_87 hH.2.1.1 rfl rfl rfl rfl rfl rfl rfl rfl (c_51 hH.2.1 i.ff h0.1 h0.2) ?_
    intro _ e_
    obtain rfl := e_.symm
    clear e_
    refine ax_ireturn f112_90 rfl rfl ?_
    exact ⟨rI_of (rfl), a, fr_rf⟩
  · subst hc
    refine ax_iload_n f112_0 rfl ?_
    refine ax_csI (rest := []) f112_1 (Or.inl rfl) rfl rfl rfl rfl rfl rfl (c_134 ⟨by omega, by omega⟩) ?_
    intro _ e_
    obtain rfl := e_.symm
    clear e_
    rw [b2i_t h0]
    refine ax_if_ne f112_4 rfl ⟨by omega, by omega⟩ (fun q4 => ?_) (fun q4 => absurd q4 (by omega))
    refine ax_iload_n f112_17 rfl ?_
    refine ax_tswI f112_18 ⟨by omega, by omega⟩ (by omega) (by omega) rfl rfl ?_
    refine ax_aload_n f112_91 rfl ?_
    refine ax_getf f112_92 o rfl ?_
    refine ax_getf f112_95 hH.2.1.1 rfl ?_
    refine ax_iload_n f112_98 rfl ?_
    refine ax_csI (rest := []) f112_99 (Or.inl rfl) rfl rfl rfl rfl rfl rfl (c_bit h0.1 h0.2 (i.tk h0.1 h0.2)) ?_
    intro _ e_
    obtain rfl := e_.symm
    clear e_
    refine ax_ireturn f112_102 rfl rfl ?_
    exact ⟨rI_of (rfl), a, fr_rf⟩
end CLS
