/-! ===== texts: errors; commands are obeyed ===== -/
section ERR
theorem rdc_sp {T : Int → Int} {L p : Int} : ((rdc T L p).1 = 0 ∨ (rdc T L p).1 = 1) ∧ p ≤ (rdc T L p).2 ∧ (rdc T L p).2 ≤ p + 5 ∧ ((rdc T L p).1 = 1 → p < (rdc T L p).2 ∧ (sg T L p = 97 ∨ sg T L p = 99 ∨ sg T L p = 119 ∨ sg T L p = 102 ∨ sg T L p = 108 ∨ sg T L p = 115 ∨ sg T L p = 110 ∨ sg T L p = 107)) := by
  have a := rdF_sp (T := T) (L := L) (c := sg T L p) (p := p + 1)
  have b := rdS_sp (T := T) (L := L) (c := sg T L p) (p := (rdF T L (sg T L p) (p + 1)).2)
  unfold rdc
  split
  · rename_i hl
    split
    · exact ⟨Or.inl rfl, by show p ≤ (rdF T L (sg T L p) (p + 1)).2; omega, by show (rdF T L (sg T L p) (p + 1)).2 ≤ _; omega, fun z => absurd (show (0 : Int) = 1 from z) (by decide)⟩
    · split
      · exact ⟨Or.inl rfl, by show p ≤ (rdS T L (sg T L p) (rdF T L (sg T L p) (p + 1)).2).2; omega, by show (rdS T L (sg T L p) (rdF T L (sg T L p) (p + 1)).2).2 ≤ _; omega, fun z => absurd (show (0 : Int) = 1 from z) (by decide)⟩
      · exact ⟨Or.inr rfl, by show p ≤ (rdS T L (sg T L p) (rdF T L (sg T L p) (p + 1)).2).2; omega, by show (rdS T L (sg T L p) (rdF T L (sg T L p) (p + 1)).2).2 ≤ _; omega, fun _ => ⟨by show p < (rdS T L (sg T L p) (rdF T L (sg T L p) (p + 1)).2).2; omega, hl⟩⟩
  · exact ⟨Or.inl rfl, Int.le_refl _, by show p ≤ p + 5; omega, fun z => absurd (show (0 : Int) = 1 from z) (by decide)⟩
/-- the place of the first error from p on, -1 without one -/
def epl (T : Int → Int) (L : Int) : Nat → Int → Int
  | 0, _ => -1
  | n + 1, p => if p < L then (if (rdc T L p).1 = 0 then (rdc T L p).2 else epl T L n (rdc T L p).2) else -1
def errP (T : Int → Int) (L : Int) : Int := if sg T L 0 = 77 then epl T L 120 1 else 0
theorem epl_in {T : Int → Int} {L : Int} (hL : L ≤ 120) : ∀ (n : Nat) (p : Int), 0 ≤ p → -1 ≤ epl T L n p ∧ epl T L n p ≤ 130
  | 0, p, h => ⟨Int.le_refl _, by show (-1 : Int) ≤ 130; omega⟩
  | n + 1, p, h => by
    have a := rdc_sp (T := T) (L := L) (p := p)
    unfold epl
    split
    · split
      · omega
      · exact epl_in hL n _ (by omega)
    · omega
/-- what a command of a text does -/
def cmd (R : Int → Int) (c f s : Int) : Int × (Int → Int) :=
  if c = 97 then (b2i (0 ≤ f ∧ f < 48), aAw R f 1) else if c = 99 then (b2i (0 ≤ f ∧ f < 48), aAw R f 0)
  else if c = 119 then (b2i ((0 ≤ f ∧ f < 48) ∧ (1 ≤ s ∧ s ≤ 99)), aWe R f s)
  else if c = 102 then (b2i ((1 ≤ f ∧ f < 48) ∧ ((1 : Int) = 0 ∨ R (144 + f) = 1 ∨ blk R ≤ 11)), aFe R f 1)
  else if c = 108 then (b2i ((0 ≤ f ∧ f < blk R) ∧ (-2 ≤ s - 2 ∧ s - 2 ≤ 2)), aLi R f (s - 2))
  else if c = 115 then (b2i (1 ≤ f ∧ f ≤ 11), aSp R f) else if c = 110 then (1, tel R)
  else if c = 107 then (b2i ((0 ≤ f ∧ f < 3) ∧ (R 192 = 1 ∨ R 269 = 0)), aSk R f) else (0, R)
theorem cmd_inv {R : Int → Int} (i : inv R) (c f s : Int) : inv (cmd R c f s).2 := by
  unfold cmd
  repeat' split
  · exact aAw_inv i f (Or.inr rfl)
  · exact aAw_inv i f (Or.inl rfl)
  · exact aWe_inv i f s
  · exact aFe_inv i f (Or.inr rfl)
  · exact aLi_inv i f (s - 2)
  · exact aSp_inv i f
  · exact inv_te i
  · exact aSk_inv i f
  · exact i
theorem cmd_01 {R : Int → Int} {c f s : Int} : (cmd R c f s).1 = 0 ∨ (cmd R c f s).1 = 1 := by
  unfold cmd
  repeat' split
  all_goals first | exact b2i_in | exact Or.inl rfl | exact Or.inr rfl
/-- what a text does from p on: how many commands were left out, and the meadow -/
def ldr (T : Int → Int) (L : Int) : Nat → Int → Int → (Int → Int) → Int × (Int → Int)
  | 0, _, lo, R => (lo, R)
  | n + 1, p, lo, R => if (rdc T L p).1 = 1 then ldr T L n (rdc T L p).2 (if (cmd R (sg T L p) (fiN T L p) (seN T L p)).1 = 1 then lo else lo + 1) (cmd R (sg T L p) (fiN T L p) (seN T L p)).2 else (lo, R)
theorem lp_100 {d t : Nat} {T : Int → Int} {L : Int} : ∀ (n : Nat) (k : Int) {pos le fi se : Int} {h : am_H}, k + n = 120 → (0 ≤ pos ∧ pos ≤ 140) ∧ 0 ≤ k → Tx h t T L pos le fi se → am_X (d + 4) 100 18 [.ref t, .int (iI k)] [] h (fun r h' => rI r (epl T L n pos) ∧ (∃ pos' le' fi' se', Tx h' t T L pos' le' fi' se') ∧ fr (fun q => q = t) h h')
  | 0, k, pos, le, fi, se, h, h1, h2, hT => by
    have h1 : k = 120 := by omega
    subst h1
    refine ax_iload_n f100_18 rfl ?_
    refine ax_bipush f100_19 ?_
    refine ax_icmp_ge f100_21 rfl ⟨by omega, by omega⟩ ⟨by omega, by omega⟩ (fun q21 => ?_) (fun q21 => absurd q21 (by omega))
    refine ax_iconst f100_53 ?_
    refine ax_ireturn f100_54 rfl rfl ?_
    exact ⟨rI_of rfl, ⟨_, _, _, _, hT⟩, fr_rf⟩
  | n + 1, k, pos, le, fi, se, h, h1, h2, hT => by
    obtain ⟨⟨h2, h3⟩, hk⟩ := h2
    obtain ⟨l1, l2⟩ := hT.2.1
    refine ax_iload_n f100_18 rfl ?_
    refine ax_bipush f100_19 ?_
    refine ax_icmp_ge f100_21 rfl ⟨by omega, by omega⟩ ⟨by omega, by omega⟩ (fun q21 => absurd q21 (by omega)) (fun q21 => ?_)
    refine ax_aload_n f100_24 rfl ?_
    refine ax_getf f100_25 hT.1 rfl ?_
    refine ax_aload_n f100_28 rfl ?_
    refine ax_getf f100_29 hT.1 rfl ?_
    refine ax_icmp_ge f100_32 rfl ⟨by omega, by omega⟩ ⟨by omega, by omega⟩ (fun q32 => ?_) (fun q32 => ?_)
    · refine ax_iconst f100_53 ?_
      refine ax_ireturn f100_54 rfl rfl ?_
      exact ⟨rI_of (by unfold epl; rw [if_neg (by omega)]), ⟨_, _, _, _, hT⟩, fr_rf⟩
    · refine ax_aload_n f100_35 rfl ?_
      have a := rdc_sp (T := T) (L := L) (p := pos)
      refine ax_cvI (rest := []) f100_36 hT.1 rfl rfl rfl rfl rfl rfl rfl rfl (c_101 hT h2 (by omega)) ?_
      rintro h9 ⟨⟨fi9, se9, T9, _⟩, f9⟩
      refine ax_if_ne f100_39 rfl ⟨by omega, by omega⟩ (fun q39 => ?_) (fun q39 => ?_)
      · refine ax_iinc (ls' := [_, _]) f100_47 rfl (Nat.le_of_ble_eq_true rfl) rfl ?_
        refine ax_goto f100_50 rfl ?_
        refine am_X_mono (lp_100 (d := d) n (k + 1) (by omega) (by omega) T9) (Nat.le_refl _) ?_
        rintro r h' ⟨g1, g2, g3⟩
        refine ⟨?_, g2, f9.trans g3⟩
        unfold epl
        rw [if_pos (by omega), if_neg (by omega)]
        exact g1
      · refine ax_aload_n f100_42 rfl ?_
        refine ax_getf f100_43 T9.1 rfl ?_
        refine ax_ireturn f100_46 rfl rfl ?_
        refine ⟨rI_of ?_, ⟨_, _, _, _, T9⟩, f9⟩
        unfold epl
        rw [if_pos (by omega), if_pos (by omega)]
theorem c_100 {h : am_H} {t : Nat} {T : Int → Int} {L pos le fi se : Int} (hT : Tx h t T L pos le fi se)  : am_X 4 100 0 (am_ent 100 [.ref t]) [] h (fun r h' => rI r (errP T L) ∧ (∃ pos' le' fi' se', Tx h' t T L pos' le' fi' se') ∧ fr (fun q => q = t) h h') := by
  show am_X 4 100 0 [.ref t, am_u] [] h _
  refine ax_aload_n f100_0 rfl ?_
  refine ax_iconst f100_1 ?_
  refine ax_cvI (rest := []) f100_2 hT.1 rfl rfl rfl rfl rfl rfl rfl rfl (c_105 hT ⟨by decide, by decide⟩) ?_
  intro _ e_
  obtain rfl := e_.symm
  clear e_
  have b0 := hT.in 0
  refine ax_bipush f100_5 ?_
  refine ax_icmp_eq f100_7 rfl ⟨by omega, by omega⟩ ⟨by omega, by omega⟩ (fun q7 => ?_) (fun q7 => ?_)
  · refine ax_aload_n f100_12 rfl ?_
    refine ax_cvV (rest := []) f100_13 hT.1 rfl rfl rfl rfl rfl rfl rfl rfl (c_99 hT) ?_
    rintro h8 ⟨T8, f8⟩
    refine ax_iconst f100_16 ?_
    refine ax_istore_n (ls' := [_, _]) f100_17 (Nat.le_of_ble_eq_true rfl) rfl ?_
    refine am_X_mono (lp_100 (d := 0) 120 0 (by omega) (by omega) T8) (Nat.le_refl _) ?_
    rintro r h' ⟨g1, g2, g3⟩
    refine ⟨?_, g2, f8.trans g3⟩
    unfold errP
    rw [if_pos q7]
    exact g1
  · refine ax_iconst f100_10 ?_
    refine ax_ireturn f100_11 rfl rfl ?_
    exact ⟨rI_of (by unfold errP; rw [if_neg q7]), ⟨_, _, _, _, hT⟩, fr_rf⟩
theorem c_28 {h : am_H} {q : Nat} {R : Int → Int} (hH : Herd h q R) (i : inv R) {c f s : Int} (hf : inI f) (hs : inI s ∧ (c = 108 → -1000 ≤ s)) (hc : c = 97 ∨ c = 99 ∨ c = 119 ∨ c = 102 ∨ c = 108 ∨ c = 115 ∨ c = 110 ∨ c = 107) : am_X 55 28 0 (am_ent 28 [.ref q, .int (iI c), .int (iI f), .int (iI s)]) [] h (fun r h' => rI r (cmd R c f s).1 ∧ Herd h' q (cmd R c f s).2 ∧ fr (HS q) h h') := by
  show am_X 55 28 0 [.ref q, .int (iI c), .int (iI f), .int (iI s)] [] h _
  obtain ⟨hs, hs0⟩ := hs
  obtain ⟨hs1, hs2⟩ := id hs
  rcases hc with hc | hc | hc | hc | hc | hc | hc | hc
  · subst hc
    refine ax_iload_n f28_0 rfl ?_
    refine ax_tswI f28_1 ⟨by omega, by omega⟩ (by omega) (by omega) rfl rfl ?_
    refine ax_aload_n f28_108 rfl ?_
    refine ax_iload_n f28_109 rfl ?_
    refine ax_iconst f28_110 ?_
    refine ax_cvI (rest := []) f28_111 hH.1 rfl rfl rfl rfl rfl rfl rfl rfl (c_30 hH i hf (Or.inr rfl)) ?_
    rintro h9 ⟨H9, f9⟩
    refine ax_ireturn f28_114 rfl (nb1 b2i_in) ?_
    exact ⟨rI_of rfl, H9, f9⟩
  · subst hc
    refine ax_iload_n f28_0 rfl ?_
    refine ax_tswI f28_1 ⟨by omega, by omega⟩ (by omega) (by omega) rfl rfl ?_
    refine ax_aload_n f28_115 rfl ?_
    refine ax_iload_n f28_116 rfl ?_
    refine ax_iconst f28_117 ?_
    refine ax_cvI (rest := []) f28_118 hH.1 rfl rfl rfl rfl rfl rfl rfl rfl (c_30 hH i hf (Or.inl rfl)) ?_
    rintro h9 ⟨H9, f9⟩
    refine ax_ireturn f28_121 rfl (nb1 b2i_in) ?_
    exact ⟨rI_of rfl, H9, f9⟩
  · subst hc
    refine ax_iload_n f28_0 rfl ?_
    refine ax_tswI f28_1 ⟨by omega, by omega⟩ (by omega) (by omega) rfl rfl ?_
    refine ax_aload_n f28_122 rfl ?_
    refine ax_iload_n f28_123 rfl ?_
    refine ax_iload_n f28_124 rfl ?_
    refine ax_cvI (rest := []) f28_125 hH.1 rfl rfl rfl rfl rfl rfl rfl rfl (c_29 hH i hf hs) ?_
    rintro h9 ⟨H9, f9⟩
    refine ax_ireturn f28_128 rfl (nb1 b2i_in) ?_
    exact ⟨rI_of rfl, H9, f9⟩
  · subst hc
    refine ax_iload_n f28_0 rfl ?_
    refine ax_tswI f28_1 ⟨by omega, by omega⟩ (by omega) (by omega) rfl rfl ?_
    refine ax_aload_n f28_129 rfl ?_
    refine ax_iload_n f28_130 rfl ?_
    refine ax_iconst f28_131 ?_
    refine ax_cvI (rest := []) f28_132 hH.1 rfl rfl rfl rfl rfl rfl rfl rfl (c_31 hH i hf (Or.inr rfl)) ?_
    rintro h9 ⟨H9, f9⟩
    refine ax_ireturn f28_135 rfl (nb1 b2i_in) ?_
    exact ⟨rI_of rfl, H9, f9⟩
  · subst hc
    have hs0 := hs0 rfl
    refine ax_iload_n f28_0 rfl ?_
    refine ax_tswI f28_1 ⟨by omega, by omega⟩ (by omega) (by omega) rfl rfl ?_
    refine ax_aload_n f28_136 rfl ?_
    refine ax_iload_n f28_137 rfl ?_
    refine ax_iload_n f28_138 rfl ?_
    refine ax_iconst f28_139 ?_
    refine ax_isub f28_140 ?_
    refine ax_cvI (rest := []) f28_141 hH.1 rfl rfl rfl rfl rfl rfl rfl rfl (c_33 hH i hf ⟨by omega, by omega⟩) ?_
    rintro h9 ⟨H9, f9⟩
    refine ax_ireturn f28_144 rfl (nb1 b2i_in) ?_
    exact ⟨rI_of rfl, H9, f9⟩
  · subst hc
    refine ax_iload_n f28_0 rfl ?_
    refine ax_tswI f28_1 ⟨by omega, by omega⟩ (by omega) (by omega) rfl rfl ?_
    refine ax_aload_n f28_145 rfl ?_
    refine ax_iload_n f28_146 rfl ?_
    refine ax_cvI (rest := []) f28_147 hH.1 rfl rfl rfl rfl rfl rfl rfl rfl (c_32 hH i hf) ?_
    rintro h9 ⟨H9, f9⟩
    refine ax_ireturn f28_150 rfl (nb1 b2i_in) ?_
    exact ⟨rI_of rfl, H9, f9⟩
  · subst hc
    refine ax_iload_n f28_0 rfl ?_
    refine ax_tswI f28_1 ⟨by omega, by omega⟩ (by omega) (by omega) rfl rfl ?_
    refine ax_aload_n f28_151 rfl ?_
    refine ax_cvI (rest := []) f28_152 hH.1 rfl rfl rfl rfl rfl rfl rfl rfl (c_34 hH i) ?_
    rintro h9 ⟨H9, f9⟩
    refine ax_ireturn f28_155 rfl rfl ?_
    exact ⟨rI_of rfl, H9, f9⟩
  · subst hc
    refine ax_iload_n f28_0 rfl ?_
    refine ax_tswI f28_1 ⟨by omega, by omega⟩ (by omega) (by omega) rfl rfl ?_
    refine ax_aload_n f28_156 rfl ?_
    refine ax_iload_n f28_157 rfl ?_
    refine ax_cvI (rest := []) f28_158 hH.1 rfl rfl rfl rfl rfl rfl rfl rfl (c_35 hH i hf) ?_
    rintro h9 ⟨H9, f9⟩
    refine ax_ireturn f28_161 rfl (nb1 b2i_in) ?_
    exact ⟨rI_of rfl, H9, f9⟩
end ERR
