/-! ===== texts: commands, the class ===== -/
section TXC
theorem ax_nmI {d m pc : Nat} {ls st : List Value} {h : am_H} {Q : am_R → am_H → Prop} {x y : Int} (e : x = y) (k : am_X d m pc ls (.int (iI y) :: st) h Q) : am_X d m pc ls (.int (iI x) :: st) h Q := e ▸ k
theorem rdc_s {T : Int → Int} {L p : Int} (hl : sg T L p = 97 ∨ sg T L p = 99 ∨ sg T L p = 119 ∨ sg T L p = 102 ∨ sg T L p = 108 ∨ sg T L p = 115 ∨ sg T L p = 110 ∨ sg T L p = 107) (h1 : ¬ sg T L p = 119) (h2 : ¬ sg T L p = 108) : rdc T L p = (b2i (¬ (rdF T L (sg T L p) (p + 1)).1 = -1), (rdF T L (sg T L p) (p + 1)).2) := by
  have e : ∀ q, rdS T L (sg T L p) q = (0, q) := fun q => by unfold rdS; rw [if_neg h1, if_neg h2]
  unfold rdc
  rw [if_pos hl]
  by_cases c : (rdF T L (sg T L p) (p + 1)).1 = -1
  · rw [if_pos c, b2i_f (fun z => z c)]
  · rw [if_neg c, e, b2i_t c]; rfl
theorem rdc_w {T : Int → Int} {L p : Int} (hl : sg T L p = 97 ∨ sg T L p = 99 ∨ sg T L p = 119 ∨ sg T L p = 102 ∨ sg T L p = 108 ∨ sg T L p = 115 ∨ sg T L p = 110 ∨ sg T L p = 107) : rdc T L p = if (rdF T L (sg T L p) (p + 1)).1 = -1 then (0, (rdF T L (sg T L p) (p + 1)).2) else if (rdS T L (sg T L p) (rdF T L (sg T L p) (p + 1)).2).1 = -1 then (0, (rdS T L (sg T L p) (rdF T L (sg T L p) (p + 1)).2).2) else (1, (rdS T L (sg T L p) (rdF T L (sg T L p) (p + 1)).2).2) := by
  unfold rdc
  rw [if_pos hl]
theorem rdc_0 {T : Int → Int} {L p : Int} (hl : ¬ (sg T L p = 97 ∨ sg T L p = 99 ∨ sg T L p = 119 ∨ sg T L p = 102 ∨ sg T L p = 108 ∨ sg T L p = 115 ∨ sg T L p = 110 ∨ sg T L p = 107)) : rdc T L p = (0, p) := by
  unfold rdc
  rw [if_neg hl]
theorem c_96 {h : am_H} {t : Nat} {T : Int → Int} {L pos le fi se : Int} (hT : Tx h t T L pos le fi se)  : am_X 0 96 0 (am_ent 96 [.ref t]) [] h (fun r h' => rI r (b2i (120 ≤ L)) ∧ h' = h) := by
  show am_X 0 96 0 [.ref t] [] h _
  obtain ⟨l1, l2⟩ := hT.2.1
  refine ax_aload_n f96_0 rfl ?_
  refine ax_getf f96_1 hT.1 rfl ?_
  refine ax_bipush f96_4 ?_
  refine ax_icmp_lt f96_6 rfl ⟨by omega, by omega⟩ ⟨by omega, by omega⟩ (fun q6 => ?_) (fun q6 => ?_)
  · refine ax_iconst f96_13 ?_
    refine ax_ireturn f96_14 rfl rfl ?_
    exact ⟨rI_of (by simp only [b2i]; split <;> omega), rfl⟩
  · refine ax_iconst f96_9 ?_
    refine ax_goto f96_10 rfl ?_
    refine ax_ireturn f96_14 rfl rfl ?_
    exact ⟨rI_of (by simp only [b2i]; split <;> omega), rfl⟩
theorem c_97 {h : am_H} {t : Nat} {T : Int → Int} {L pos le fi se : Int} (hT : Tx h t T L pos le fi se) (hL : L < 120) {c : Int} (c1 : 0 ≤ c) (c2 : c ≤ 255) : am_X 0 97 0 (am_ent 97 [.ref t, .int (iI c)]) [] h (fun r h' => rV r ∧ Tx h' t (uZ T L c) (L + 1) pos le fi se ∧ fr (fun q => q = t ∨ q = t + 1) h h') := by
  show am_X 0 97 0 [.ref t, .int (iI c)] [] h _
  obtain ⟨o, ⟨l1, l2⟩, g, g1, g2⟩ := hT
  refine ax_aload_n f97_0 rfl ?_
  refine ax_getf f97_1 o rfl ?_
  refine ax_if_lt f97_4 rfl ⟨by omega, by omega⟩ (fun q4 => absurd q4 (by omega)) (fun q4 => ?_)
  refine ax_aload_n f97_7 rfl ?_
  refine ax_getf f97_8 o rfl ?_
  refine ax_bipush f97_11 ?_
  refine ax_icmp_ge f97_13 rfl ⟨by omega, by omega⟩ ⟨by omega, by omega⟩ (fun q13 => absurd q13 (by omega)) (fun q13 => ?_)
  refine ax_aload_n f97_16 rfl ?_
  refine ax_getf f97_17 o rfl ?_
  refine ax_aload_n f97_20 rfl ?_
  refine ax_getf f97_21 o rfl ?_
  refine ax_iload_n f97_24 rfl ?_
  refine ax_castO f97_25 g1 (by omega) (by omega) rfl (by omega) (by omega) (fun h1 o1 r1 => ?_)
  have o_ := r1.at (q := t) (by omega) o
  refine ax_aload_n f97_26 rfl ?_
  refine ax_dup f97_27 rfl ?_
  refine ax_getf f97_28 o_ rfl ?_
  refine ax_iconst f97_31 ?_
  refine ax_iadd f97_32 ?_
  refine ax_putfO f97_33 o_ rfl rfl rfl rfl (fun h2 o2 r2 => ?_)
  refine ax_return f97_36 rfl ?_
  refine ⟨rfl, ⟨o2, ⟨by omega, by omega⟩, _, o1.fr r2 (by omega), fun j j1 j2 => ?_⟩, (r1.mono (fun q e => Or.inr e)).trans (r2.mono (fun q e => Or.inl e))⟩
  unfold uZ
  split
  · omega
  · exact g2 j j1 (by omega)
theorem c_98 {h : am_H} {t : Nat} {T : Int → Int} {L pos le fi se : Int} (hT : Tx h t T L pos le fi se)  : am_X 0 98 0 (am_ent 98 [.ref t]) [] h (fun r h' => rV r ∧ Tx h' t T 0 pos le fi se ∧ fr (fun q => q = t) h h') := by
  show am_X 0 98 0 [.ref t] [] h _
  refine ax_aload_n f98_0 rfl ?_
  refine ax_iconst f98_1 ?_
  refine ax_putfO f98_2 hT.1 rfl rfl rfl rfl (fun h1 o1 r1 => ?_)
  refine ax_return f98_5 rfl ?_
  obtain ⟨o, l, g, g1, g2⟩ := hT
  exact ⟨rfl, ⟨o1, ⟨by omega, by omega⟩, g, g1.fr r1 (by omega), fun j j1 j2 => by omega⟩, r1⟩
theorem c_99 {h : am_H} {t : Nat} {T : Int → Int} {L pos le fi se : Int} (hT : Tx h t T L pos le fi se)  : am_X 0 99 0 (am_ent 99 [.ref t]) [] h (fun r h' => rV r ∧ Tx h' t T L 1 le fi se ∧ fr (fun q => q = t) h h') := by
  show am_X 0 99 0 [.ref t] [] h _
  refine ax_aload_n f99_0 rfl ?_
  refine ax_iconst f99_1 ?_
  refine ax_putfO f99_2 hT.1 rfl rfl rfl rfl (fun h1 o1 r1 => ?_)
  refine ax_return f99_5 rfl ?_
  exact ⟨rfl, hT.ob o1 r1, r1⟩
theorem c_102_2 {h : am_H} {t : Nat} {T : Int → Int} {L pos le fi se : Int} (hT : Tx h t T L pos le fi se) {lo hi : Int} (p1 : 0 ≤ pos) (p2 : pos ≤ 200) (l1 : 0 ≤ lo ∧ lo ≤ 1000) (l2 : 0 ≤ hi ∧ hi ≤ 1000) : am_X 2 102 0 (am_ent 102 [.ref t, .int (iI 2), .int (iI lo), .int (iI hi)]) [] h (fun r h' => rI r (b2i (¬ (rd2 T L pos lo hi).1 = -1)) ∧ Tx h' t T L (rd2 T L pos lo hi).2 le (rd2 T L pos lo hi).1 se ∧ fr (fun q => q = t) h h') := by
  show am_X 2 102 0 [.ref t, .int (iI 2), .int (iI lo), .int (iI hi)] [] h _
  refine ax_aload_n f102_0 rfl ?_
  refine ax_aload_n f102_1 rfl ?_
  refine ax_iload_n f102_2 rfl ?_
  refine ax_iload_n f102_3 rfl ?_
  refine ax_iload_n f102_4 rfl ?_
  refine ax_cvI (rest := [_]) f102_5 hT.1 rfl rfl rfl rfl rfl rfl rfl rfl (c_104_2 hT p1 p2 l1 l2) ?_
  rintro h9 ⟨T9, f9⟩
  refine ax_putfO f102_8 T9.1 rfl rfl rfl rfl (fun h2 oL r2 => ?_)
  have bX := rd2_sp (T := T) (L := L) (p := pos) (lo := lo) (hi := hi)
  refine ax_aload_n f102_11 rfl ?_
  refine ax_getf f102_12 oL rfl ?_
  refine ax_iconst f102_15 ?_
  refine ax_icmp_eq f102_16 rfl ⟨by omega, by omega⟩ ⟨by omega, by omega⟩ (fun q16 => ?_) (fun q16 => ?_)
  · refine ax_iconst f102_23 ?_
    refine ax_ireturn f102_24 rfl rfl ?_
    exact ⟨rI_of (b2i_f (fun z => z q16)).symm, T9.ob oL r2, f9.trans r2⟩
  · refine ax_iconst f102_19 ?_
    refine ax_goto f102_20 rfl ?_
    refine ax_ireturn f102_24 rfl rfl ?_
    exact ⟨rI_of (b2i_t q16).symm, T9.ob oL r2, f9.trans r2⟩
theorem c_102_1 {h : am_H} {t : Nat} {T : Int → Int} {L pos le fi se : Int} (hT : Tx h t T L pos le fi se) {hi : Int} (p1 : 0 ≤ pos) (p2 : pos ≤ 200) (l2 : 0 ≤ hi ∧ hi ≤ 1000) : am_X 2 102 0 (am_ent 102 [.ref t, .int (iI 1), .int (iI 0), .int (iI hi)]) [] h (fun r h' => rI r (b2i (¬ (rd1 T L pos hi).1 = -1)) ∧ Tx h' t T L (rd1 T L pos hi).2 le (rd1 T L pos hi).1 se ∧ fr (fun q => q = t) h h') := by
  show am_X 2 102 0 [.ref t, .int (iI 1), .int (iI 0), .int (iI hi)] [] h _
  refine ax_aload_n f102_0 rfl ?_
  refine ax_aload_n f102_1 rfl ?_
  refine ax_iload_n f102_2 rfl ?_
  refine ax_iload_n f102_3 rfl ?_
  refine ax_iload_n f102_4 rfl ?_
  refine ax_cvI (rest := [_]) f102_5 hT.1 rfl rfl rfl rfl rfl rfl rfl rfl (c_104_1 hT p1 p2 l2) ?_
  rintro h9 ⟨T9, f9⟩
  refine ax_putfO f102_8 T9.1 rfl rfl rfl rfl (fun h2 oL r2 => ?_)
  have bX := rd1_sp (T := T) (L := L) (p := pos) (hi := hi)
  refine ax_aload_n f102_11 rfl ?_
  refine ax_getf f102_12 oL rfl ?_
  refine ax_iconst f102_15 ?_
  refine ax_icmp_eq f102_16 rfl ⟨by omega, by omega⟩ ⟨by omega, by omega⟩ (fun q16 => ?_) (fun q16 => ?_)
  · refine ax_iconst f102_23 ?_
    refine ax_ireturn f102_24 rfl rfl ?_
    exact ⟨rI_of (b2i_f (fun z => z q16)).symm, T9.ob oL r2, f9.trans r2⟩
  · refine ax_iconst f102_19 ?_
    refine ax_goto f102_20 rfl ?_
    refine ax_ireturn f102_24 rfl rfl ?_
    exact ⟨rI_of (b2i_t q16).symm, T9.ob oL r2, f9.trans r2⟩
theorem c_103_2 {h : am_H} {t : Nat} {T : Int → Int} {L pos le fi se : Int} (hT : Tx h t T L pos le fi se) {lo hi : Int} (p1 : 0 ≤ pos) (p2 : pos ≤ 200) (l1 : 0 ≤ lo ∧ lo ≤ 1000) (l2 : 0 ≤ hi ∧ hi ≤ 1000) : am_X 2 103 0 (am_ent 103 [.ref t, .int (iI 2), .int (iI lo), .int (iI hi)]) [] h (fun r h' => rI r (b2i (¬ (rd2 T L pos lo hi).1 = -1)) ∧ Tx h' t T L (rd2 T L pos lo hi).2 le fi (rd2 T L pos lo hi).1 ∧ fr (fun q => q = t) h h') := by
  show am_X 2 103 0 [.ref t, .int (iI 2), .int (iI lo), .int (iI hi)] [] h _
  refine ax_aload_n f103_0 rfl ?_
  refine ax_aload_n f103_1 rfl ?_
  refine ax_iload_n f103_2 rfl ?_
  refine ax_iload_n f103_3 rfl ?_
  refine ax_iload_n f103_4 rfl ?_
  refine ax_cvI (rest := [_]) f103_5 hT.1 rfl rfl rfl rfl rfl rfl rfl rfl (c_104_2 hT p1 p2 l1 l2) ?_
  rintro h9 ⟨T9, f9⟩
  refine ax_putfO f103_8 T9.1 rfl rfl rfl rfl (fun h2 oL r2 => ?_)
  have bX := rd2_sp (T := T) (L := L) (p := pos) (lo := lo) (hi := hi)
  refine ax_aload_n f103_11 rfl ?_
  refine ax_getf f103_12 oL rfl ?_
  refine ax_iconst f103_15 ?_
  refine ax_icmp_eq f103_16 rfl ⟨by omega, by omega⟩ ⟨by omega, by omega⟩ (fun q16 => ?_) (fun q16 => ?_)
  · refine ax_iconst f103_23 ?_
    refine ax_ireturn f103_24 rfl rfl ?_
    exact ⟨rI_of (b2i_f (fun z => z q16)).symm, T9.ob oL r2, f9.trans r2⟩
  · refine ax_iconst f103_19 ?_
    refine ax_goto f103_20 rfl ?_
    refine ax_ireturn f103_24 rfl rfl ?_
    exact ⟨rI_of (b2i_t q16).symm, T9.ob oL r2, f9.trans r2⟩
theorem c_103_1 {h : am_H} {t : Nat} {T : Int → Int} {L pos le fi se : Int} (hT : Tx h t T L pos le fi se) {hi : Int} (p1 : 0 ≤ pos) (p2 : pos ≤ 200) (l2 : 0 ≤ hi ∧ hi ≤ 1000) : am_X 2 103 0 (am_ent 103 [.ref t, .int (iI 1), .int (iI 0), .int (iI hi)]) [] h (fun r h' => rI r (b2i (¬ (rd1 T L pos hi).1 = -1)) ∧ Tx h' t T L (rd1 T L pos hi).2 le fi (rd1 T L pos hi).1 ∧ fr (fun q => q = t) h h') := by
  show am_X 2 103 0 [.ref t, .int (iI 1), .int (iI 0), .int (iI hi)] [] h _
  refine ax_aload_n f103_0 rfl ?_
  refine ax_aload_n f103_1 rfl ?_
  refine ax_iload_n f103_2 rfl ?_
  refine ax_iload_n f103_3 rfl ?_
  refine ax_iload_n f103_4 rfl ?_
  refine ax_cvI (rest := [_]) f103_5 hT.1 rfl rfl rfl rfl rfl rfl rfl rfl (c_104_1 hT p1 p2 l2) ?_
  rintro h9 ⟨T9, f9⟩
  refine ax_putfO f103_8 T9.1 rfl rfl rfl rfl (fun h2 oL r2 => ?_)
  have bX := rd1_sp (T := T) (L := L) (p := pos) (hi := hi)
  refine ax_aload_n f103_11 rfl ?_
  refine ax_getf f103_12 oL rfl ?_
  refine ax_iconst f103_15 ?_
  refine ax_icmp_eq f103_16 rfl ⟨by omega, by omega⟩ ⟨by omega, by omega⟩ (fun q16 => ?_) (fun q16 => ?_)
  · refine ax_iconst f103_23 ?_
    refine ax_ireturn f103_24 rfl rfl ?_
    exact ⟨rI_of (b2i_f (fun z => z q16)).symm, T9.ob oL r2, f9.trans r2⟩
  · refine ax_iconst f103_19 ?_
    refine ax_goto f103_20 rfl ?_
    refine ax_ireturn f103_24 rfl rfl ?_
    exact ⟨rI_of (b2i_t q16).symm, T9.ob oL r2, f9.trans r2⟩
theorem c_101 {h : am_H} {t : Nat} {T : Int → Int} {L pos le fi se : Int} (hT : Tx h t T L pos le fi se) (p1 : 0 ≤ pos) (p2 : pos ≤ 150) : am_X 3 101 0 (am_ent 101 [.ref t]) [] h (fun r h' => rI r (rdc T L pos).1 ∧ (∃ fi' se', Tx h' t T L (rdc T L pos).2 (sg T L pos) fi' se' ∧ ((rdc T L pos).1 = 1 → (¬ sg T L pos = 110 → fi' = fiN T L pos) ∧ (sg T L pos = 119 ∨ sg T L pos = 108 → se' = seN T L pos))) ∧ fr (fun q => q = t) h h') := by
  show am_X 3 101 0 [.ref t] [] h _
  refine ax_aload_n f101_0 rfl ?_
  refine ax_aload_n f101_1 rfl ?_
  refine ax_aload_n f101_2 rfl ?_
  refine ax_getf f101_3 hT.1 rfl ?_
  refine ax_cvI (rest := [_]) f101_6 hT.1 rfl rfl rfl rfl rfl rfl rfl rfl (c_105 hT ⟨by omega, by omega⟩) ?_
  intro _ e_
  obtain rfl := e_.symm
  clear e_
  refine ax_putfO f101_9 hT.1 rfl rfl rfl rfl (fun h1 o1 r1 => ?_)
  refine ax_aload_n f101_12 rfl ?_
  refine ax_dup f101_13 rfl ?_
  refine ax_getf f101_14 o1 rfl ?_
  refine ax_iconst f101_17 ?_
  refine ax_iadd f101_18 ?_
  refine ax_putfO f101_19 o1 rfl rfl rfl rfl (fun h2 o2 r2 => ?_)
  have T2 : Tx h2 t T L (pos + 1) (sg T L pos) fi se := hT.ob o2 (r1.trans r2)
  have f2 := r1.trans r2
  have b1 := hT.in pos
  refine ax_aload_n f101_22 rfl ?_
  refine ax_getf f101_23 o2 rfl ?_
  by_cases hc : sg T L pos = 97
  · refine ax_nmI hc ?_
    refine ax_tswI f101_26 ⟨by omega, by omega⟩ (by omega) (by omega) rfl rfl ?_
    refine ax_aload_n f101_132 rfl ?_
    refine ax_iconst f101_133 ?_
    refine ax_iconst f101_134 ?_
    refine ax_bipush f101_135 ?_
    refine ax_cvI (rest := []) f101_137 T2.1 rfl rfl rfl rfl rfl rfl rfl rfl (c_102_2 T2 (by omega) (by omega) ⟨by decide, by decide⟩ ⟨by decide, by decide⟩) ?_
    rintro h9 ⟨T9, f9⟩
    refine ax_ireturn f101_140 rfl (nb1 b2i_in) ?_
    have eF : rdF T L (sg T L pos) (pos + 1) = rd2 T L (pos + 1) 0 47 := by unfold rdF; rw [hc]; rfl
    have eR : rdc T L pos = (b2i (¬ (rd2 T L (pos + 1) 0 47).1 = -1), (rd2 T L (pos + 1) 0 47).2) := by
      rw [rdc_s (by omega) (by omega) (by omega), eF]
    rw [eR]
    exact ⟨rI_of rfl, ⟨_, _, T9, fun _ => ⟨fun _ => by unfold fiN; rw [eF], fun z => by omega⟩⟩, f2.trans f9⟩
  have hn97 := hc
  clear hc
  by_cases hc : sg T L pos = 99
  · refine ax_nmI hc ?_
    refine ax_tswI f101_26 ⟨by omega, by omega⟩ (by omega) (by omega) rfl rfl ?_
    refine ax_aload_n f101_132 rfl ?_
    refine ax_iconst f101_133 ?_
    refine ax_iconst f101_134 ?_
    refine ax_bipush f101_135 ?_
    refine ax_cvI (rest := []) f101_137 T2.1 rfl rfl rfl rfl rfl rfl rfl rfl (c_102_2 T2 (by omega) (by omega) ⟨by decide, by decide⟩ ⟨by decide, by decide⟩) ?_
    rintro h9 ⟨T9, f9⟩
    refine ax_ireturn f101_140 rfl (nb1 b2i_in) ?_
    have eF : rdF T L (sg T L pos) (pos + 1) = rd2 T L (pos + 1) 0 47 := by unfold rdF; rw [hc]; rfl
    have eR : rdc T L pos = (b2i (¬ (rd2 T L (pos + 1) 0 47).1 = -1), (rd2 T L (pos + 1) 0 47).2) := by
      rw [rdc_s (by omega) (by omega) (by omega), eF]
    rw [eR]
    exact ⟨rI_of rfl, ⟨_, _, T9, fun _ => ⟨fun _ => by unfold fiN; rw [eF], fun z => by omega⟩⟩, f2.trans f9⟩
  have hn99 := hc
  clear hc
  by_cases hc : sg T L pos = 119
  · refine ax_nmI hc ?_
    refine ax_tswI f101_26 ⟨by omega, by omega⟩ (by omega) (by omega) rfl rfl ?_
    refine ax_aload_n f101_141 rfl ?_
    refine ax_iconst f101_142 ?_
    refine ax_iconst f101_143 ?_
    refine ax_bipush f101_144 ?_
    refine ax_cvI (rest := []) f101_146 T2.1 rfl rfl rfl rfl rfl rfl rfl rfl (c_102_2 T2 (by omega) (by omega) ⟨by decide, by decide⟩ ⟨by decide, by decide⟩) ?_
    rintro h9 ⟨T9, f9⟩
    have eF : rdF T L (sg T L pos) (pos + 1) = rd2 T L (pos + 1) 0 47 := by unfold rdF; rw [hc]; rfl
    have eS : rdS T L (sg T L pos) (rd2 T L (pos + 1) 0 47).2 = rd2 T L (rd2 T L (pos + 1) 0 47).2 1 99 := by unfold rdS; rw [hc]; rfl
    have bF := rdF_sp (T := T) (L := L) (c := sg T L pos) (p := pos + 1)
    rw [eF] at bF
    refine ax_if_eq f101_149 rfl b2i_inI (fun q149 => ?_) (fun q149 => ?_)
    · refine ax_iconst f101_167 ?_
      refine ax_ireturn f101_168 rfl rfl ?_
      have eR : rdc T L pos = (0, (rd2 T L (pos + 1) 0 47).2) := by
        rw [rdc_w (by omega), eF, if_pos (Decidable.not_not.mp (b2i_z.mp q149))]
      rw [eR]
      exact ⟨rI_of rfl, ⟨_, _, T9, fun z => absurd (show (0 : Int) = 1 from z) (by decide)⟩, f2.trans f9⟩
    · refine ax_aload_n f101_152 rfl ?_
      refine ax_iconst f101_153 ?_
      refine ax_iconst f101_154 ?_
      refine ax_bipush f101_155 ?_
      refine ax_cvI (rest := []) f101_157 T9.1 rfl rfl rfl rfl rfl rfl rfl rfl (c_103_2 T9 (by omega) (by omega) ⟨by decide, by decide⟩ ⟨by decide, by decide⟩) ?_
      rintro h8 ⟨T8, f8⟩
      refine ax_if_eq f101_160 rfl b2i_inI (fun q160 => ?_) (fun q160 => ?_)
      · refine ax_iconst f101_167 ?_
        refine ax_ireturn f101_168 rfl rfl ?_
        have eR : rdc T L pos = (0, (rd2 T L (rd2 T L (pos + 1) 0 47).2 1 99).2) := by
          rw [rdc_w (by omega), eF, if_neg (b2i_nz.mp q149), eS, if_pos (Decidable.not_not.mp (b2i_z.mp q160))]
        rw [eR]
        exact ⟨rI_of rfl, ⟨_, _, T8, fun z => absurd (show (0 : Int) = 1 from z) (by decide)⟩, (f2.trans f9).trans f8⟩
      · refine ax_iconst f101_163 ?_
        refine ax_goto f101_164 rfl ?_
        refine ax_ireturn f101_168 rfl rfl ?_
        have eR : rdc T L pos = (1, (rd2 T L (rd2 T L (pos + 1) 0 47).2 1 99).2) := by
          rw [rdc_w (by omega), eF, if_neg (b2i_nz.mp q149), eS, if_neg (b2i_nz.mp q160)]
        rw [eR]
        exact ⟨rI_of rfl, ⟨_, _, T8, fun _ => ⟨fun _ => by unfold fiN; rw [eF], fun _ => by unfold seN; rw [eF, eS]⟩⟩, (f2.trans f9).trans f8⟩
  have hn119 := hc
  clear hc
  by_cases hc : sg T L pos = 102
  · refine ax_nmI hc ?_
    refine ax_tswI f101_26 ⟨by omega, by omega⟩ (by omega) (by omega) rfl rfl ?_
    refine ax_aload_n f101_169 rfl ?_
    refine ax_iconst f101_170 ?_
    refine ax_iconst f101_171 ?_
    refine ax_bipush f101_172 ?_
    refine ax_cvI (rest := []) f101_174 T2.1 rfl rfl rfl rfl rfl rfl rfl rfl (c_102_2 T2 (by omega) (by omega) ⟨by decide, by decide⟩ ⟨by decide, by decide⟩) ?_
    rintro h9 ⟨T9, f9⟩
    refine ax_ireturn f101_177 rfl (nb1 b2i_in) ?_
    have eF : rdF T L (sg T L pos) (pos + 1) = rd2 T L (pos + 1) 1 47 := by unfold rdF; rw [hc]; rfl
    have eR : rdc T L pos = (b2i (¬ (rd2 T L (pos + 1) 1 47).1 = -1), (rd2 T L (pos + 1) 1 47).2) := by
      rw [rdc_s (by omega) (by omega) (by omega), eF]
    rw [eR]
    exact ⟨rI_of rfl, ⟨_, _, T9, fun _ => ⟨fun _ => by unfold fiN; rw [eF], fun z => by omega⟩⟩, f2.trans f9⟩
  have hn102 := hc
  clear hc
  by_cases hc : sg T L pos = 108
  · refine ax_nmI hc ?_
    refine ax_tswI f101_26 ⟨by omega, by omega⟩ (by omega) (by omega) rfl rfl ?_
    refine ax_aload_n f101_178 rfl ?_
    refine ax_iconst f101_179 ?_
    refine ax_iconst f101_180 ?_
    refine ax_bipush f101_181 ?_
    refine ax_cvI (rest := []) f101_183 T2.1 rfl rfl rfl rfl rfl rfl rfl rfl (c_102_2 T2 (by omega) (by omega) ⟨by decide, by decide⟩ ⟨by decide, by decide⟩) ?_
    rintro h9 ⟨T9, f9⟩
    have eF : rdF T L (sg T L pos) (pos + 1) = rd2 T L (pos + 1) 0 11 := by unfold rdF; rw [hc]; rfl
    have eS : rdS T L (sg T L pos) (rd2 T L (pos + 1) 0 11).2 = rd1 T L (rd2 T L (pos + 1) 0 11).2 4 := by unfold rdS; rw [hc]; rfl
    have bF := rdF_sp (T := T) (L := L) (c := sg T L pos) (p := pos + 1)
    rw [eF] at bF
    refine ax_if_eq f101_186 rfl b2i_inI (fun q186 => ?_) (fun q186 => ?_)
    · refine ax_iconst f101_203 ?_
      refine ax_ireturn f101_204 rfl rfl ?_
      have eR : rdc T L pos = (0, (rd2 T L (pos + 1) 0 11).2) := by
        rw [rdc_w (by omega), eF, if_pos (Decidable.not_not.mp (b2i_z.mp q186))]
      rw [eR]
      exact ⟨rI_of rfl, ⟨_, _, T9, fun z => absurd (show (0 : Int) = 1 from z) (by decide)⟩, f2.trans f9⟩
    · refine ax_aload_n f101_189 rfl ?_
      refine ax_iconst f101_190 ?_
      refine ax_iconst f101_191 ?_
      refine ax_iconst f101_192 ?_
      refine ax_cvI (rest := []) f101_193 T9.1 rfl rfl rfl rfl rfl rfl rfl rfl (c_103_1 T9 (by omega) (by omega) ⟨by decide, by decide⟩) ?_
      rintro h8 ⟨T8, f8⟩
      refine ax_if_eq f101_196 rfl b2i_inI (fun q196 => ?_) (fun q196 => ?_)
      · refine ax_iconst f101_203 ?_
        refine ax_ireturn f101_204 rfl rfl ?_
        have eR : rdc T L pos = (0, (rd1 T L (rd2 T L (pos + 1) 0 11).2 4).2) := by
          rw [rdc_w (by omega), eF, if_neg (b2i_nz.mp q186), eS, if_pos (Decidable.not_not.mp (b2i_z.mp q196))]
        rw [eR]
        exact ⟨rI_of rfl, ⟨_, _, T8, fun z => absurd (show (0 : Int) = 1 from z) (by decide)⟩, (f2.trans f9).trans f8⟩
      · refine ax_iconst f101_199 ?_
        refine ax_goto f101_200 rfl ?_
        refine ax_ireturn f101_204 rfl rfl ?_
        have eR : rdc T L pos = (1, (rd1 T L (rd2 T L (pos + 1) 0 11).2 4).2) := by
          rw [rdc_w (by omega), eF, if_neg (b2i_nz.mp q186), eS, if_neg (b2i_nz.mp q196)]
        rw [eR]
        exact ⟨rI_of rfl, ⟨_, _, T8, fun _ => ⟨fun _ => by unfold fiN; rw [eF], fun _ => by unfold seN; rw [eF, eS]⟩⟩, (f2.trans f9).trans f8⟩
  have hn108 := hc
  clear hc
  by_cases hc : sg T L pos = 115
  · refine ax_nmI hc ?_
    refine ax_tswI f101_26 ⟨by omega, by omega⟩ (by omega) (by omega) rfl rfl ?_
    refine ax_aload_n f101_205 rfl ?_
    refine ax_iconst f101_206 ?_
    refine ax_iconst f101_207 ?_
    refine ax_bipush f101_208 ?_
    refine ax_cvI (rest := []) f101_210 T2.1 rfl rfl rfl rfl rfl rfl rfl rfl (c_102_2 T2 (by omega) (by omega) ⟨by decide, by decide⟩ ⟨by decide, by decide⟩) ?_
    rintro h9 ⟨T9, f9⟩
    refine ax_ireturn f101_213 rfl (nb1 b2i_in) ?_
    have eF : rdF T L (sg T L pos) (pos + 1) = rd2 T L (pos + 1) 1 11 := by unfold rdF; rw [hc]; rfl
    have eR : rdc T L pos = (b2i (¬ (rd2 T L (pos + 1) 1 11).1 = -1), (rd2 T L (pos + 1) 1 11).2) := by
      rw [rdc_s (by omega) (by omega) (by omega), eF]
    rw [eR]
    exact ⟨rI_of rfl, ⟨_, _, T9, fun _ => ⟨fun _ => by unfold fiN; rw [eF], fun z => by omega⟩⟩, f2.trans f9⟩
  have hn115 := hc
  clear hc
  by_cases hc : sg T L pos = 107
  · refine ax_nmI hc ?_
    refine ax_tswI f101_26 ⟨by omega, by omega⟩ (by omega) (by omega) rfl rfl ?_
    refine ax_aload_n f101_216 rfl ?_
    refine ax_iconst f101_217 ?_
    refine ax_iconst f101_218 ?_
    refine ax_iconst f101_219 ?_
    refine ax_cvI (rest := []) f101_220 T2.1 rfl rfl rfl rfl rfl rfl rfl rfl (c_102_1 T2 (by omega) (by omega) ⟨by decide, by decide⟩) ?_
    rintro h9 ⟨T9, f9⟩
    refine ax_ireturn f101_223 rfl (nb1 b2i_in) ?_
    have eF : rdF T L (sg T L pos) (pos + 1) = rd1 T L (pos + 1) 2 := by unfold rdF; rw [hc]; rfl
    have eR : rdc T L pos = (b2i (¬ (rd1 T L (pos + 1) 2).1 = -1), (rd1 T L (pos + 1) 2).2) := by
      rw [rdc_s (by omega) (by omega) (by omega), eF]
    rw [eR]
    exact ⟨rI_of rfl, ⟨_, _, T9, fun _ => ⟨fun _ => by unfold fiN; rw [eF], fun z => by omega⟩⟩, f2.trans f9⟩
  have hn107 := hc
  clear hc
  by_cases hc : sg T L pos = 110
  · refine ax_nmI hc ?_
    refine ax_tswI f101_26 ⟨by omega, by omega⟩ (by omega) (by omega) rfl rfl ?_
    refine ax_iconst f101_214 ?_
    refine ax_ireturn f101_215 rfl rfl ?_
    have eR : rdc T L pos = (1, pos + 1) := by
      rw [rdc_s (by omega) (by omega) (by omega)]
      have eF : rdF T L (sg T L pos) (pos + 1) = (0, pos + 1) := by unfold rdF; rw [hc]; rfl
      rw [eF]; rfl
    rw [eR]
    exact ⟨rI_of rfl, ⟨_, _, T2, fun _ => ⟨fun z => absurd hc z, fun z => by omega⟩⟩, f2⟩
  have hn110 := hc
  clear hc
  by_cases hc : sg T L pos = 98
  · refine ax_nmI hc ?_
    refine ax_tswI f101_26 ⟨by omega, by omega⟩ (by omega) (by omega) rfl rfl ?_
    refine ax_aload_n f101_224 rfl ?_
    refine ax_dup f101_225 rfl ?_
    refine ax_getf f101_226 T2.1 rfl ?_
    refine ax_iconst f101_229 ?_
    refine ax_isub f101_230 ?_
    refine ax_putfO f101_231 T2.1 rfl rfl rfl rfl (fun h3 o3 r3 => ?_)
    refine ax_iconst f101_234 ?_
    refine ax_ireturn f101_235 rfl rfl ?_
    have eR : rdc T L pos = (0, pos) := rdc_0 (by omega)
    rw [eR]
    have T3 : Tx h3 t T L pos (sg T L pos) fi se := by
      have e1 : pos + 1 - 1 = pos := by omega
      rw [e1] at o3
      exact T2.ob o3 r3
    exact ⟨rI_of rfl, ⟨_, _, T3, fun z => absurd (show (0 : Int) = 1 from z) (by decide)⟩, f2.trans r3⟩
  have hn98 := hc
  clear hc
  by_cases hc : sg T L pos = 100
  · refine ax_nmI hc ?_
    refine ax_tswI f101_26 ⟨by omega, by omega⟩ (by omega) (by omega) rfl rfl ?_
    refine ax_aload_n f101_224 rfl ?_
    refine ax_dup f101_225 rfl ?_
    refine ax_getf f101_226 T2.1 rfl ?_
    refine ax_iconst f101_229 ?_
    refine ax_isub f101_230 ?_
    refine ax_putfO f101_231 T2.1 rfl rfl rfl rfl (fun h3 o3 r3 => ?_)
    refine ax_iconst f101_234 ?_
    refine ax_ireturn f101_235 rfl rfl ?_
    have eR : rdc T L pos = (0, pos) := rdc_0 (by omega)
    rw [eR]
    have T3 : Tx h3 t T L pos (sg T L pos) fi se := by
      have e1 : pos + 1 - 1 = pos := by omega
      rw [e1] at o3
      exact T2.ob o3 r3
    exact ⟨rI_of rfl, ⟨_, _, T3, fun z => absurd (show (0 : Int) = 1 from z) (by decide)⟩, f2.trans r3⟩
  have hn100 := hc
  clear hc
  by_cases hc : sg T L pos = 101
  · refine ax_nmI hc ?_
    refine ax_tswI f101_26 ⟨by omega, by omega⟩ (by omega) (by omega) rfl rfl ?_
    refine ax_aload_n f101_224 rfl ?_
    refine ax_dup f101_225 rfl ?_
    refine ax_getf f101_226 T2.1 rfl ?_
    refine ax_iconst f101_229 ?_
    refine ax_isub f101_230 ?_
    refine ax_putfO f101_231 T2.1 rfl rfl rfl rfl (fun h3 o3 r3 => ?_)
    refine ax_iconst f101_234 ?_
    refine ax_ireturn f101_235 rfl rfl ?_
    have eR : rdc T L pos = (0, pos) := rdc_0 (by omega)
    rw [eR]
    have T3 : Tx h3 t T L pos (sg T L pos) fi se := by
      have e1 : pos + 1 - 1 = pos := by omega
      rw [e1] at o3
      exact T2.ob o3 r3
    exact ⟨rI_of rfl, ⟨_, _, T3, fun z => absurd (show (0 : Int) = 1 from z) (by decide)⟩, f2.trans r3⟩
  have hn101 := hc
  clear hc
  by_cases hc : sg T L pos = 103
  · refine ax_nmI hc ?_
    refine ax_tswI f101_26 ⟨by omega, by omega⟩ (by omega) (by omega) rfl rfl ?_
    refine ax_aload_n f101_224 rfl ?_
    refine ax_dup f101_225 rfl ?_
    refine ax_getf f101_226 T2.1 rfl ?_
    refine ax_iconst f101_229 ?_
    refine ax_isub f101_230 ?_
    refine ax_putfO f101_231 T2.1 rfl rfl rfl rfl (fun h3 o3 r3 => ?_)
    refine ax_iconst f101_234 ?_
    refine ax_ireturn f101_235 rfl rfl ?_
    have eR : rdc T L pos = (0, pos) := rdc_0 (by omega)
    rw [eR]
    have T3 : Tx h3 t T L pos (sg T L pos) fi se := by
      have e1 : pos + 1 - 1 = pos := by omega
      rw [e1] at o3
      exact T2.ob o3 r3
    exact ⟨rI_of rfl, ⟨_, _, T3, fun z => absurd (show (0 : Int) = 1 from z) (by decide)⟩, f2.trans r3⟩
  have hn103 := hc
  clear hc
  by_cases hc : sg T L pos = 104
  · refine ax_nmI hc ?_
    refine ax_tswI f101_26 ⟨by omega, by omega⟩ (by omega) (by omega) rfl rfl ?_
    refine ax_aload_n f101_224 rfl ?_
    refine ax_dup f101_225 rfl ?_
    refine ax_getf f101_226 T2.1 rfl ?_
    refine ax_iconst f101_229 ?_
    refine ax_isub f101_230 ?_
    refine ax_putfO f101_231 T2.1 rfl rfl rfl rfl (fun h3 o3 r3 => ?_)
    refine ax_iconst f101_234 ?_
    refine ax_ireturn f101_235 rfl rfl ?_
    have eR : rdc T L pos = (0, pos) := rdc_0 (by omega)
    rw [eR]
    have T3 : Tx h3 t T L pos (sg T L pos) fi se := by
      have e1 : pos + 1 - 1 = pos := by omega
      rw [e1] at o3
      exact T2.ob o3 r3
    exact ⟨rI_of rfl, ⟨_, _, T3, fun z => absurd (show (0 : Int) = 1 from z) (by decide)⟩, f2.trans r3⟩
  have hn104 := hc
  clear hc
  by_cases hc : sg T L pos = 105
  · refine ax_nmI hc ?_
    refine ax_tswI f101_26 ⟨by omega, by omega⟩ (by omega) (by omega) rfl rfl ?_
    refine ax_aload_n f101_224 rfl ?_
    refine ax_dup f101_225 rfl ?_
    refine ax_getf f101_226 T2.1 rfl ?_
    refine ax_iconst f101_229 ?_
    refine ax_isub f101_230 ?_
    refine ax_putfO f101_231 T2.1 rfl rfl rfl rfl (fun h3 o3 r3 => ?_)
    refine ax_iconst f101_234 ?_
    refine ax_ireturn f101_235 rfl rfl ?_
    have eR : rdc T L pos = (0, pos) := rdc_0 (by omega)
    rw [eR]
    have T3 : Tx h3 t T L pos (sg T L pos) fi se := by
      have e1 : pos + 1 - 1 = pos := by omega
      rw [e1] at o3
      exact T2.ob o3 r3
    exact ⟨rI_of rfl, ⟨_, _, T3, fun z => absurd (show (0 : Int) = 1 from z) (by decide)⟩, f2.trans r3⟩
  have hn105 := hc
  clear hc
  by_cases hc : sg T L pos = 106
  · refine ax_nmI hc ?_
    refine ax_tswI f101_26 ⟨by omega, by omega⟩ (by omega) (by omega) rfl rfl ?_
    refine ax_aload_n f101_224 rfl ?_
    refine ax_dup f101_225 rfl ?_
    refine ax_getf f101_226 T2.1 rfl ?_
    refine ax_iconst f101_229 ?_
    refine ax_isub f101_230 ?_
    refine ax_putfO f101_231 T2.1 rfl rfl rfl rfl (fun h3 o3 r3 => ?_)
    refine ax_iconst f101_234 ?_
    refine ax_ireturn f101_235 rfl rfl ?_
    have eR : rdc T L pos = (0, pos) := rdc_0 (by omega)
    rw [eR]
    have T3 : Tx h3 t T L pos (sg T L pos) fi se := by
      have e1 : pos + 1 - 1 = pos := by omega
      rw [e1] at o3
      exact T2.ob o3 r3
    exact ⟨rI_of rfl, ⟨_, _, T3, fun z => absurd (show (0 : Int) = 1 from z) (by decide)⟩, f2.trans r3⟩
  have hn106 := hc
  clear hc
  by_cases hc : sg T L pos = 109
  · refine ax_nmI hc ?_
    refine ax_tswI f101_26 ⟨by omega, by omega⟩ (by omega) (by omega) rfl rfl ?_
    refine ax_aload_n f101_224 rfl ?_
    refine ax_dup f101_225 rfl ?_
    refine ax_getf f101_226 T2.1 rfl ?_
    refine ax_iconst f101_229 ?_
    refine ax_isub f101_230 ?_
    refine ax_putfO f101_231 T2.1 rfl rfl rfl rfl (fun h3 o3 r3 => ?_)
    refine ax_iconst f101_234 ?_
    refine ax_ireturn f101_235 rfl rfl ?_
    have eR : rdc T L pos = (0, pos) := rdc_0 (by omega)
    rw [eR]
    have T3 : Tx h3 t T L pos (sg T L pos) fi se := by
      have e1 : pos + 1 - 1 = pos := by omega
      rw [e1] at o3
      exact T2.ob o3 r3
    exact ⟨rI_of rfl, ⟨_, _, T3, fun z => absurd (show (0 : Int) = 1 from z) (by decide)⟩, f2.trans r3⟩
  have hn109 := hc
  clear hc
  by_cases hc : sg T L pos = 111
  · refine ax_nmI hc ?_
    refine ax_tswI f101_26 ⟨by omega, by omega⟩ (by omega) (by omega) rfl rfl ?_
    refine ax_aload_n f101_224 rfl ?_
    refine ax_dup f101_225 rfl ?_
    refine ax_getf f101_226 T2.1 rfl ?_
    refine ax_iconst f101_229 ?_
    refine ax_isub f101_230 ?_
    refine ax_putfO f101_231 T2.1 rfl rfl rfl rfl (fun h3 o3 r3 => ?_)
    refine ax_iconst f101_234 ?_
    refine ax_ireturn f101_235 rfl rfl ?_
    have eR : rdc T L pos = (0, pos) := rdc_0 (by omega)
    rw [eR]
    have T3 : Tx h3 t T L pos (sg T L pos) fi se := by
      have e1 : pos + 1 - 1 = pos := by omega
      rw [e1] at o3
      exact T2.ob o3 r3
    exact ⟨rI_of rfl, ⟨_, _, T3, fun z => absurd (show (0 : Int) = 1 from z) (by decide)⟩, f2.trans r3⟩
  have hn111 := hc
  clear hc
  by_cases hc : sg T L pos = 112
  · refine ax_nmI hc ?_
    refine ax_tswI f101_26 ⟨by omega, by omega⟩ (by omega) (by omega) rfl rfl ?_
    refine ax_aload_n f101_224 rfl ?_
    refine ax_dup f101_225 rfl ?_
    refine ax_getf f101_226 T2.1 rfl ?_
    refine ax_iconst f101_229 ?_
    refine ax_isub f101_230 ?_
    refine ax_putfO f101_231 T2.1 rfl rfl rfl rfl (fun h3 o3 r3 => ?_)
    refine ax_iconst f101_234 ?_
    refine ax_ireturn f101_235 rfl rfl ?_
    have eR : rdc T L pos = (0, pos) := rdc_0 (by omega)
    rw [eR]
    have T3 : Tx h3 t T L pos (sg T L pos) fi se := by
      have e1 : pos + 1 - 1 = pos := by omega
      rw [e1] at o3
      exact T2.ob o3 r3
    exact ⟨rI_of rfl, ⟨_, _, T3, fun z => absurd (show (0 : Int) = 1 from z) (by decide)⟩, f2.trans r3⟩
  have hn112 := hc
  clear hc
  by_cases hc : sg T L pos = 113
  · refine ax_nmI hc ?_
    refine ax_tswI f101_26 ⟨by omega, by omega⟩ (by omega) (by omega) rfl rfl ?_
    refine ax_aload_n f101_224 rfl ?_
    refine ax_dup f101_225 rfl ?_
    refine ax_getf f101_226 T2.1 rfl ?_
    refine ax_iconst f101_229 ?_
    refine ax_isub f101_230 ?_
    refine ax_putfO f101_231 T2.1 rfl rfl rfl rfl (fun h3 o3 r3 => ?_)
    refine ax_iconst f101_234 ?_
    refine ax_ireturn f101_235 rfl rfl ?_
    have eR : rdc T L pos = (0, pos) := rdc_0 (by omega)
    rw [eR]
    have T3 : Tx h3 t T L pos (sg T L pos) fi se := by
      have e1 : pos + 1 - 1 = pos := by omega
      rw [e1] at o3
      exact T2.ob o3 r3
    exact ⟨rI_of rfl, ⟨_, _, T3, fun z => absurd (show (0 : Int) = 1 from z) (by decide)⟩, f2.trans r3⟩
  have hn113 := hc
  clear hc
  by_cases hc : sg T L pos = 114
  · refine ax_nmI hc ?_
    refine ax_tswI f101_26 ⟨by omega, by omega⟩ (by omega) (by omega) rfl rfl ?_
    refine ax_aload_n f101_224 rfl ?_
    refine ax_dup f101_225 rfl ?_
    refine ax_getf f101_226 T2.1 rfl ?_
    refine ax_iconst f101_229 ?_
    refine ax_isub f101_230 ?_
    refine ax_putfO f101_231 T2.1 rfl rfl rfl rfl (fun h3 o3 r3 => ?_)
    refine ax_iconst f101_234 ?_
    refine ax_ireturn f101_235 rfl rfl ?_
    have eR : rdc T L pos = (0, pos) := rdc_0 (by omega)
    rw [eR]
    have T3 : Tx h3 t T L pos (sg T L pos) fi se := by
      have e1 : pos + 1 - 1 = pos := by omega
      rw [e1] at o3
      exact T2.ob o3 r3
    exact ⟨rI_of rfl, ⟨_, _, T3, fun z => absurd (show (0 : Int) = 1 from z) (by decide)⟩, f2.trans r3⟩
  have hn114 := hc
  clear hc
  by_cases hc : sg T L pos = 116
  · refine ax_nmI hc ?_
    refine ax_tswI f101_26 ⟨by omega, by omega⟩ (by omega) (by omega) rfl rfl ?_
    refine ax_aload_n f101_224 rfl ?_
    refine ax_dup f101_225 rfl ?_
    refine ax_getf f101_226 T2.1 rfl ?_
    refine ax_iconst f101_229 ?_
    refine ax_isub f101_230 ?_
    refine ax_putfO f101_231 T2.1 rfl rfl rfl rfl (fun h3 o3 r3 => ?_)
    refine ax_iconst f101_234 ?_
    refine ax_ireturn f101_235 rfl rfl ?_
    have eR : rdc T L pos = (0, pos) := rdc_0 (by omega)
    rw [eR]
    have T3 : Tx h3 t T L pos (sg T L pos) fi se := by
      have e1 : pos + 1 - 1 = pos := by omega
      rw [e1] at o3
      exact T2.ob o3 r3
    exact ⟨rI_of rfl, ⟨_, _, T3, fun z => absurd (show (0 : Int) = 1 from z) (by decide)⟩, f2.trans r3⟩
  have hn116 := hc
  clear hc
  by_cases hc : sg T L pos = 117
  · refine ax_nmI hc ?_
    refine ax_tswI f101_26 ⟨by omega, by omega⟩ (by omega) (by omega) rfl rfl ?_
    refine ax_aload_n f101_224 rfl ?_
    refine ax_dup f101_225 rfl ?_
    refine ax_getf f101_226 T2.1 rfl ?_
    refine ax_iconst f101_229 ?_
    refine ax_isub f101_230 ?_
    refine ax_putfO f101_231 T2.1 rfl rfl rfl rfl (fun h3 o3 r3 => ?_)
    refine ax_iconst f101_234 ?_
    refine ax_ireturn f101_235 rfl rfl ?_
    have eR : rdc T L pos = (0, pos) := rdc_0 (by omega)
    rw [eR]
    have T3 : Tx h3 t T L pos (sg T L pos) fi se := by
      have e1 : pos + 1 - 1 = pos := by omega
      rw [e1] at o3
      exact T2.ob o3 r3
    exact ⟨rI_of rfl, ⟨_, _, T3, fun z => absurd (show (0 : Int) = 1 from z) (by decide)⟩, f2.trans r3⟩
  have hn117 := hc
  clear hc
  by_cases hc : sg T L pos = 118
  · refine ax_nmI hc ?_
    refine ax_tswI f101_26 ⟨by omega, by omega⟩ (by omega) (by omega) rfl rfl ?_
    refine ax_aload_n f101_224 rfl ?_
    refine ax_dup f101_225 rfl ?_
    refine ax_getf f101_226 T2.1 rfl ?_
    refine ax_iconst f101_229 ?_
    refine ax_isub f101_230 ?_
    refine ax_putfO f101_231 T2.1 rfl rfl rfl rfl (fun h3 o3 r3 => ?_)
    refine ax_iconst f101_234 ?_
    refine ax_ireturn f101_235 rfl rfl ?_
    have eR : rdc T L pos = (0, pos) := rdc_0 (by omega)
    rw [eR]
    have T3 : Tx h3 t T L pos (sg T L pos) fi se := by
      have e1 : pos + 1 - 1 = pos := by omega
      rw [e1] at o3
      exact T2.ob o3 r3
    exact ⟨rI_of rfl, ⟨_, _, T3, fun z => absurd (show (0 : Int) = 1 from z) (by decide)⟩, f2.trans r3⟩
  have hn118 := hc
  clear hc
  refine ax_tswO f101_26 ⟨by omega, by omega⟩ (by omega) rfl ?_
  refine ax_aload_n f101_224 rfl ?_
  refine ax_dup f101_225 rfl ?_
  refine ax_getf f101_226 T2.1 rfl ?_
  refine ax_iconst f101_229 ?_
  refine ax_isub f101_230 ?_
  refine ax_putfO f101_231 T2.1 rfl rfl rfl rfl (fun h3 o3 r3 => ?_)
  refine ax_iconst f101_234 ?_
  refine ax_ireturn f101_235 rfl rfl ?_
  have eR : rdc T L pos = (0, pos) := rdc_0 (by omega)
  rw [eR]
  have T3 : Tx h3 t T L pos (sg T L pos) fi se := by
    have e1 : pos + 1 - 1 = pos := by omega
    rw [e1] at o3
    exact T2.ob o3 r3
  exact ⟨rI_of rfl, ⟨_, _, T3, fun z => absurd (show (0 : Int) = 1 from z) (by decide)⟩, f2.trans r3⟩
end TXC
