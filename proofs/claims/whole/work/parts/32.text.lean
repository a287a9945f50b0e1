/-! ===== texts ===== -/
section TXT
/-- the sign at place i of a text T of L signs -/
def sg (T : Int → Int) (L i : Int) : Int := if 0 ≤ i ∧ i < L then T i else -1
def dgt (T : Int → Int) (L i : Int) : Int := if 48 ≤ sg T L i ∧ sg T L i ≤ 57 then sg T L i - 48 else -1
def rd2 (T : Int → Int) (L p lo hi : Int) : Int × Int :=
  if dgt T L p = -1 ∨ hi < 10 * dgt T L p ∨ 10 * dgt T L p + 9 < lo then (-1, p)
  else if dgt T L (p + 1) = -1 ∨ ¬ (lo ≤ 10 * dgt T L p + dgt T L (p + 1) ∧ 10 * dgt T L p + dgt T L (p + 1) ≤ hi) then (-1, p + 1)
  else (10 * dgt T L p + dgt T L (p + 1), p + 2)
def rd1 (T : Int → Int) (L p hi : Int) : Int × Int := if dgt T L p = -1 ∨ hi < dgt T L p then (-1, p) else (dgt T L p, p + 1)
theorem dgt_y {T : Int → Int} {L i : Int} (h1 : 48 ≤ sg T L i) (h2 : sg T L i ≤ 57) : dgt T L i = sg T L i - 48 := by unfold dgt; rw [if_pos ⟨h1, h2⟩]
theorem dgt_n {T : Int → Int} {L i : Int} (h : ¬ (48 ≤ sg T L i ∧ sg T L i ≤ 57)) : dgt T L i = -1 := by unfold dgt; rw [if_neg h]
/-- the first number of a command with letter c, read from place p on -/
def rdF (T : Int → Int) (L c p : Int) : Int × Int :=
  if c = 97 ∨ c = 99 ∨ c = 119 then rd2 T L p 0 47 else if c = 102 then rd2 T L p 1 47 else if c = 108 then rd2 T L p 0 11 else if c = 115 then rd2 T L p 1 11 else if c = 107 then rd1 T L p 2 else (0, p)
def rdS (T : Int → Int) (L c p : Int) : Int × Int := if c = 119 then rd2 T L p 1 99 else if c = 108 then rd1 T L p 4 else (0, p)
def isL (c : Int) : Prop := c = 97 ∨ c = 99 ∨ c = 119 ∨ c = 102 ∨ c = 108 ∨ c = 115 ∨ c = 110 ∨ c = 107
/-- 1 if the command at p is a right one, and the place behind it; else 0 and the place of the error -/
def rdc (T : Int → Int) (L p : Int) : Int × Int :=
  if sg T L p = 97 ∨ sg T L p = 99 ∨ sg T L p = 119 ∨ sg T L p = 102 ∨ sg T L p = 108 ∨ sg T L p = 115 ∨ sg T L p = 110 ∨ sg T L p = 107 then
    (if (rdF T L (sg T L p) (p + 1)).1 = -1 then (0, (rdF T L (sg T L p) (p + 1)).2)
    else if (rdS T L (sg T L p) (rdF T L (sg T L p) (p + 1)).2).1 = -1 then (0, (rdS T L (sg T L p) (rdF T L (sg T L p) (p + 1)).2).2)
    else (1, (rdS T L (sg T L p) (rdF T L (sg T L p) (p + 1)).2).2))
  else (0, p)
/-- the numbers of the command at p -/
def fiN (T : Int → Int) (L p : Int) : Int := (rdF T L (sg T L p) (p + 1)).1
def seN (T : Int → Int) (L p : Int) : Int := (rdS T L (sg T L p) (rdF T L (sg T L p) (p + 1)).2).1
theorem rd2_sp {T : Int → Int} {L p lo hi : Int} : p ≤ (rd2 T L p lo hi).2 ∧ (rd2 T L p lo hi).2 ≤ p + 2 ∧ -1 ≤ (rd2 T L p lo hi).1 ∧ (rd2 T L p lo hi).1 ≤ 99 := by
  have d : ∀ q, -1 ≤ dgt T L q ∧ dgt T L q ≤ 9 := fun q => by unfold dgt; split <;> omega
  have d1 := d p
  have d2 := d (p + 1)
  unfold rd2
  split
  · exact ⟨Int.le_refl _, by show p ≤ p + 2; omega, by show (-1 : Int) ≤ -1; omega, by show (-1 : Int) ≤ 99; omega⟩
  · split
    · exact ⟨by show p ≤ p + 1; omega, by show p + 1 ≤ p + 2; omega, by show (-1 : Int) ≤ -1; omega, by show (-1 : Int) ≤ 99; omega⟩
    · refine ⟨by show p ≤ p + 2; omega, Int.le_refl _, ?_, ?_⟩
      · show -1 ≤ 10 * dgt T L p + dgt T L (p + 1); omega
      · show 10 * dgt T L p + dgt T L (p + 1) ≤ 99; omega
theorem rd1_sp {T : Int → Int} {L p hi : Int} : p ≤ (rd1 T L p hi).2 ∧ (rd1 T L p hi).2 ≤ p + 2 ∧ -1 ≤ (rd1 T L p hi).1 ∧ (rd1 T L p hi).1 ≤ 99 := by
  have d : ∀ q, -1 ≤ dgt T L q ∧ dgt T L q ≤ 9 := fun q => by unfold dgt; split <;> omega
  have d1 := d p
  unfold rd1
  split
  · exact ⟨Int.le_refl _, by show p ≤ p + 2; omega, by show (-1 : Int) ≤ -1; omega, by show (-1 : Int) ≤ 99; omega⟩
  · exact ⟨by show p ≤ p + 1; omega, by show p + 1 ≤ p + 2; omega, by show -1 ≤ dgt T L p; omega, by show dgt T L p ≤ 99; omega⟩
theorem rdF_sp {T : Int → Int} {L c p : Int} : p ≤ (rdF T L c p).2 ∧ (rdF T L c p).2 ≤ p + 2 ∧ -1 ≤ (rdF T L c p).1 ∧ (rdF T L c p).1 ≤ 99 := by
  unfold rdF
  repeat' split
  all_goals first | exact rd2_sp | exact rd1_sp | exact ⟨Int.le_refl _, by show p ≤ p + 2; omega, by show (-1 : Int) ≤ 0; omega, by show (0 : Int) ≤ 99; omega⟩
theorem rdS_sp {T : Int → Int} {L c p : Int} : p ≤ (rdS T L c p).2 ∧ (rdS T L c p).2 ≤ p + 2 ∧ -1 ≤ (rdS T L c p).1 ∧ (rdS T L c p).1 ≤ 99 := by
  unfold rdS
  repeat' split
  all_goals first | exact rd2_sp | exact rd1_sp | exact ⟨Int.le_refl _, by show p ≤ p + 2; omega, by show (-1 : Int) ≤ 0; omega, by show (0 : Int) ≤ 99; omega⟩
/-- the text object at t -/
def Tx (h : am_H) (t : Nat) (T : Int → Int) (L pos : Int) (le fi se : Int) : Prop := h.1[t]? = some (.inr (8, [.ref (t + 1), .int (iI L), .int (iI pos), .int (iI le), .int (iI fi), .int (iI se)])) ∧ (0 ≤ L ∧ L ≤ 120) ∧ ∃ g, oA 1 h (t + 1) 120 g ∧ ∀ j, 0 ≤ j → j < L → g j = T j ∧ 0 ≤ T j ∧ T j ≤ 255
theorem sg_in {T : Int → Int} {L i : Int} (h : ∀ j, 0 ≤ j → j < L → 0 ≤ T j ∧ T j ≤ 255) : -1 ≤ sg T L i ∧ sg T L i ≤ 255 := by
  unfold sg
  split
  · rename_i c; have := h i c.1 c.2; omega
  · omega
theorem Tx.mv {h h' : am_H} {t : Nat} {T : Int → Int} {L pos le fi se : Int} {S : Nat → Prop} (a : Tx h t T L pos le fi se) (b : fr S h h') (h1 : ¬ S t) (h2 : ¬ S (t + 1)) : Tx h' t T L pos le fi se := by
  obtain ⟨o, l, g, g1, g2⟩ := a
  exact ⟨b.at h1 o, l, g, g1.fr b h2, g2⟩
/-- the object alone changed -/
theorem Tx.ob {h h' : am_H} {t : Nat} {T : Int → Int} {L pos le fi se pos' le' fi' se' : Int} (a : Tx h t T L pos le fi se) (o : h'.1[t]? = some (.inr (8, [.ref (t + 1), .int (iI L), .int (iI pos'), .int (iI le'), .int (iI fi'), .int (iI se')]))) (b : fr (fun q => q = t) h h') : Tx h' t T L pos' le' fi' se' := by
  obtain ⟨_, l, g, g1, g2⟩ := a
  exact ⟨o, l, g, g1.fr b (by omega), g2⟩
theorem Tx.in {h : am_H} {t : Nat} {T : Int → Int} {L pos le fi se : Int} (a : Tx h t T L pos le fi se) (i : Int) : -1 ≤ sg T L i ∧ sg T L i ≤ 255 := by
  obtain ⟨_, l, g, g1, g2⟩ := a
  exact sg_in fun j j1 j2 => (g2 j j1 j2).2
theorem c_105 {h : am_H} {t : Nat} {T : Int → Int} {L pos le fi se : Int} (hT : Tx h t T L pos le fi se) {i : Int} (hi : inI i) : am_X 0 105 0 (am_ent 105 [.ref t, .int (iI i)]) [] h (fun r h' => rI r (sg T L i) ∧ h' = h) := by
  show am_X 0 105 0 [.ref t, .int (iI i)] [] h _
  obtain ⟨hi1, hi2⟩ := hi
  obtain ⟨o, ⟨l1, l2⟩, g, g1, g2⟩ := hT
  refine ax_iload_n f105_0 rfl ?_
  refine ax_if_lt f105_1 rfl ⟨by omega, by omega⟩ (fun q1 => ?_) (fun q1 => ?_)
  · refine ax_iconst f105_27 ?_
    refine ax_ireturn f105_28 rfl rfl ?_
    exact ⟨rI_of (by unfold sg; rw [if_neg (by omega)]), rfl⟩
  · refine ax_iload_n f105_4 rfl ?_
    refine ax_aload_n f105_5 rfl ?_
    refine ax_getf f105_6 o rfl ?_
    refine ax_icmp_ge f105_9 rfl ⟨by omega, by omega⟩ ⟨by omega, by omega⟩ (fun q9 => ?_) (fun q9 => ?_)
    · refine ax_iconst f105_27 ?_
      refine ax_ireturn f105_28 rfl rfl ?_
      exact ⟨rI_of (by unfold sg; rw [if_neg (by omega)]), rfl⟩
    · refine ax_iload_n f105_12 rfl ?_
      refine ax_bipush f105_13 ?_
      refine ax_icmp_ge f105_15 rfl ⟨by omega, by omega⟩ ⟨by omega, by omega⟩ (fun q15 => absurd q15 (by omega)) (fun q15 => ?_)
      refine ax_aload_n f105_18 rfl ?_
      refine ax_getf f105_19 o rfl ?_
      refine ax_iload_n f105_22 rfl ?_
      refine ax_caldO f105_23 g1 (by omega) (by omega) rfl ?_
      refine ax_goto f105_24 rfl ?_
      refine ax_ireturn f105_28 rfl rfl ?_
      exact ⟨rI_of (by unfold sg; rw [if_pos (by omega)]; exact (g2 i (by omega) (by omega)).1), rfl⟩
theorem c_104_2 {h : am_H} {t : Nat} {T : Int → Int} {L pos le fi se : Int} (hT : Tx h t T L pos le fi se) {lo hi : Int} (p1 : 0 ≤ pos) (p2 : pos ≤ 200) (l1 : 0 ≤ lo ∧ lo ≤ 1000) (l2 : 0 ≤ hi ∧ hi ≤ 1000) : am_X 1 104 0 (am_ent 104 [.ref t, .int (iI 2), .int (iI lo), .int (iI hi)]) [] h (fun r h' => rI r (rd2 T L pos lo hi).1 ∧ Tx h' t T L (rd2 T L pos lo hi).2 le fi se ∧ fr (fun q => q = t) h h') := by
  show am_X 1 104 0 [.ref t, .int (iI 2), .int (iI lo), .int (iI hi), am_u, am_u, am_u, am_u, am_u] [] h _
  have b1 := hT.in pos
  have b2 := hT.in (pos + 1)
  generalize hX : rd2 T L pos lo hi = X
  refine ax_iconst f104_0 ?_
  refine ax_istore (ls' := [_, _, _, _, _, _, _, _, _]) f104_1 (Nat.le_of_ble_eq_true rfl) rfl ?_
  refine ax_iload_n f104_3 rfl ?_
  refine ax_iconst f104_4 ?_
  refine ax_isub f104_5 ?_
  refine ax_istore (ls' := [_, _, _, _, _, _, _, _, _]) f104_6 (Nat.le_of_ble_eq_true rfl) rfl ?_
  refine ax_iload f104_8 rfl ?_
  refine ax_if_lt f104_10 rfl ⟨by omega, by omega⟩ (fun q10 => absurd q10 (by omega)) (fun q10 => ?_)
  refine ax_aload_n f104_13 rfl ?_
  refine ax_aload_n f104_14 rfl ?_
  refine ax_getf f104_15 hT.1 rfl ?_
  refine ax_cvI (rest := []) f104_18 hT.1 rfl rfl rfl rfl rfl rfl rfl rfl (c_105 hT ⟨by omega, by omega⟩) ?_
  intro _ e_
  obtain rfl := e_.symm
  clear e_
  refine ax_istore (ls' := [_, _, _, _, _, _, _, _, _]) f104_21 (Nat.le_of_ble_eq_true rfl) rfl ?_
  refine ax_iload f104_23 rfl ?_
  refine ax_bipush f104_25 ?_
  refine ax_icmp_lt f104_27 rfl ⟨by omega, by omega⟩ ⟨by omega, by omega⟩ (fun q27 => ?_) (fun q27 => ?_)
  · refine ax_iconst f104_37 ?_
    refine ax_ireturn f104_38 rfl rfl ?_
    have eX : X = (-1, pos) := by
      rw [← hX]
      unfold rd2
      rw [dgt_n (by omega), if_pos (Or.inl rfl)]
    rw [eX]
    exact ⟨rI_of rfl, hT, fr_rf⟩
  · refine ax_iload f104_30 rfl ?_
    refine ax_bipush f104_32 ?_
    refine ax_icmp_le f104_34 rfl ⟨by omega, by omega⟩ ⟨by omega, by omega⟩ (fun q34 => ?_) (fun q34 => ?_)
    · have ed := dgt_y (T := T) (L := L) (i := pos) (by omega) (by omega)
      refine ax_bipush f104_39 ?_
      refine ax_iload f104_41 rfl ?_
      refine ax_imul f104_43 ?_
      refine ax_iload f104_44 rfl ?_
      refine ax_iadd f104_46 ?_
      refine ax_bipush f104_47 ?_
      refine ax_isub f104_49 ?_
      refine ax_istore (ls' := [_, _, _, _, _, _, _, _, _]) f104_50 (Nat.le_of_ble_eq_true rfl) rfl ?_
      refine ax_iload f104_52 rfl ?_
      refine ax_if_ne f104_54 rfl ⟨by omega, by omega⟩ (fun q54 => ?_) (fun q54 => absurd q54 (by omega))
      refine ax_bipush f104_62 ?_
      refine ax_iload f104_64 rfl ?_
      refine ax_imul f104_66 ?_
      refine ax_istore (ls' := [_, _, _, _, _, _, _, _, _]) f104_67 (Nat.le_of_ble_eq_true rfl) rfl ?_
      refine ax_iload f104_69 rfl ?_
      refine ax_if_ne f104_71 rfl ⟨by omega, by omega⟩ (fun q71 => ?_) (fun q71 => absurd q71 (by omega))
      refine ax_bipush f104_79 ?_
      refine ax_iload f104_81 rfl ?_
      refine ax_imul f104_83 ?_
      refine ax_bipush f104_84 ?_
      refine ax_iadd f104_86 ?_
      refine ax_istore (ls' := [_, _, _, _, _, _, _, _, _]) f104_87 (Nat.le_of_ble_eq_true rfl) rfl ?_
      refine ax_iload f104_89 rfl ?_
      refine ax_iload_n f104_91 rfl ?_
      refine ax_icmp_lt f104_92 rfl ⟨by omega, by omega⟩ ⟨by omega, by omega⟩ (fun q92 => ?_) (fun q92 => ?_)
      · refine ax_iconst f104_101 ?_
        refine ax_ireturn f104_102 rfl rfl ?_
        have eX : X = (-1, pos) := by
          rw [← hX]
          unfold rd2
          rw [ed, if_pos (by omega)]
        rw [eX]
        exact ⟨rI_of rfl, hT, fr_rf⟩
      · refine ax_iload f104_95 rfl ?_
        refine ax_iload_n f104_97 rfl ?_
        refine ax_icmp_le f104_98 rfl ⟨by omega, by omega⟩ ⟨by omega, by omega⟩ (fun q98 => ?_) (fun q98 => ?_)
        · refine ax_aload_n f104_103 rfl ?_
          refine ax_dup f104_104 rfl ?_
          refine ax_getf f104_105 hT.1 rfl ?_
          refine ax_iconst f104_108 ?_
          refine ax_iadd f104_109 ?_
          refine ax_putfO f104_110 hT.1 rfl rfl rfl rfl (fun h1 o1 r1 => ?_)
          have hT1 : Tx h1 t T L (pos + 1) le fi se := hT.ob o1 r1
          refine ax_iinc (ls' := [_, _, _, _, _, _, _, _, _]) f104_113 rfl (Nat.le_of_ble_eq_true rfl) rfl ?_
          refine ax_goto f104_116 rfl ?_
          refine ax_iload f104_8 rfl ?_
          refine ax_if_lt f104_10 rfl ⟨by omega, by omega⟩ (fun q10 => absurd q10 (by omega)) (fun q10 => ?_)
          refine ax_aload_n f104_13 rfl ?_
          refine ax_aload_n f104_14 rfl ?_
          refine ax_getf f104_15 o1 rfl ?_
          refine ax_cvI (rest := []) f104_18 hT1.1 rfl rfl rfl rfl rfl rfl rfl rfl (c_105 hT1 ⟨by omega, by omega⟩) ?_
          intro _ e_
          obtain rfl := e_.symm
          clear e_
          refine ax_istore (ls' := [_, _, _, _, _, _, _, _, _]) f104_21 (Nat.le_of_ble_eq_true rfl) rfl ?_
          refine ax_iload f104_23 rfl ?_
          refine ax_bipush f104_25 ?_
          refine ax_icmp_lt f104_27 rfl ⟨by omega, by omega⟩ ⟨by omega, by omega⟩ (fun q27 => ?_) (fun q27 => ?_)
          · refine ax_iconst f104_37 ?_
            refine ax_ireturn f104_38 rfl rfl ?_
            have eX : X = (-1, pos + 1) := by
              rw [← hX]
              unfold rd2
              rw [ed, if_neg (by omega), dgt_n (by omega), if_pos (Or.inl rfl)]
            rw [eX]
            exact ⟨rI_of rfl, hT1, r1⟩
          · refine ax_iload f104_30 rfl ?_
            refine ax_bipush f104_32 ?_
            refine ax_icmp_le f104_34 rfl ⟨by omega, by omega⟩ ⟨by omega, by omega⟩ (fun q34 => ?_) (fun q34 => ?_)
            · have ed2 := dgt_y (T := T) (L := L) (i := pos + 1) (by omega) (by omega)
              refine ax_bipush f104_39 ?_
              refine ax_iload f104_41 rfl ?_
              refine ax_imul f104_43 ?_
              refine ax_iload f104_44 rfl ?_
              refine ax_iadd f104_46 ?_
              refine ax_bipush f104_47 ?_
              refine ax_isub f104_49 ?_
              refine ax_istore (ls' := [_, _, _, _, _, _, _, _, _]) f104_50 (Nat.le_of_ble_eq_true rfl) rfl ?_
              refine ax_iload f104_52 rfl ?_
              refine ax_if_ne f104_54 rfl ⟨by omega, by omega⟩ (fun q54 => absurd q54 (by omega)) (fun q54 => ?_)
              refine ax_iload f104_57 rfl ?_
              refine ax_goto f104_59 rfl ?_
              refine ax_istore (ls' := [_, _, _, _, _, _, _, _, _]) f104_67 (Nat.le_of_ble_eq_true rfl) rfl ?_
              refine ax_iload f104_69 rfl ?_
              refine ax_if_ne f104_71 rfl ⟨by omega, by omega⟩ (fun q71 => absurd q71 (by omega)) (fun q71 => ?_)
              refine ax_iload f104_74 rfl ?_
              refine ax_goto f104_76 rfl ?_
              refine ax_istore (ls' := [_, _, _, _, _, _, _, _, _]) f104_87 (Nat.le_of_ble_eq_true rfl) rfl ?_
              refine ax_iload f104_89 rfl ?_
              refine ax_iload_n f104_91 rfl ?_
              refine ax_icmp_lt f104_92 rfl ⟨by omega, by omega⟩ ⟨by omega, by omega⟩ (fun q92 => ?_) (fun q92 => ?_)
              · refine ax_iconst f104_101 ?_
                refine ax_ireturn f104_102 rfl rfl ?_
                have eX : X = (-1, pos + 1) := by
                  rw [← hX]
                  unfold rd2
                  rw [ed, if_neg (by omega), ed2, if_pos (by omega)]
                rw [eX]
                exact ⟨rI_of rfl, hT1, r1⟩
              · refine ax_iload f104_95 rfl ?_
                refine ax_iload_n f104_97 rfl ?_
                refine ax_icmp_le f104_98 rfl ⟨by omega, by omega⟩ ⟨by omega, by omega⟩ (fun q98 => ?_) (fun q98 => ?_)
                · refine ax_aload_n f104_103 rfl ?_
                  refine ax_dup f104_104 rfl ?_
                  refine ax_getf f104_105 o1 rfl ?_
                  refine ax_iconst f104_108 ?_
                  refine ax_iadd f104_109 ?_
                  refine ax_putfO f104_110 o1 rfl rfl rfl rfl (fun h2 o2 r2 => ?_)
                  refine ax_iinc (ls' := [_, _, _, _, _, _, _, _, _]) f104_113 rfl (Nat.le_of_ble_eq_true rfl) rfl ?_
                  refine ax_goto f104_116 rfl ?_
                  refine ax_iload f104_8 rfl ?_
                  refine ax_if_lt f104_10 rfl ⟨by omega, by omega⟩ (fun q10 => ?_) (fun q10 => absurd q10 (by omega))
                  refine ax_iload f104_119 rfl ?_
                  refine ax_ireturn f104_121 rfl rfl ?_
                  have eX : X = (10 * (sg T L pos - 48) + (sg T L (pos + 1) - 48), pos + 1 + 1) := by
                    rw [← hX]
                    unfold rd2
                    rw [ed, if_neg (by omega), ed2, if_neg (by omega), show pos + 1 + 1 = pos + 2 by omega]
                  rw [eX]
                  exact ⟨rI_of (by dsimp only; omega), hT1.ob o2 r2, r1.trans r2⟩
                · refine ax_iconst f104_101 ?_
                  refine ax_ireturn f104_102 rfl rfl ?_
                  have eX : X = (-1, pos + 1) := by
                    rw [← hX]
                    unfold rd2
                    rw [ed, if_neg (by omega), ed2, if_pos (by omega)]
                  rw [eX]
                  exact ⟨rI_of rfl, hT1, r1⟩
            · refine ax_iconst f104_37 ?_
              refine ax_ireturn f104_38 rfl rfl ?_
              have eX : X = (-1, pos + 1) := by
                rw [← hX]
                unfold rd2
                rw [ed, if_neg (by omega), dgt_n (by omega), if_pos (Or.inl rfl)]
              rw [eX]
              exact ⟨rI_of rfl, hT1, r1⟩
        · refine ax_iconst f104_101 ?_
          refine ax_ireturn f104_102 rfl rfl ?_
          have eX : X = (-1, pos) := by
            rw [← hX]
            unfold rd2
            rw [ed, if_pos (by omega)]
          rw [eX]
          exact ⟨rI_of rfl, hT, fr_rf⟩
    · refine ax_iconst f104_37 ?_
      refine ax_ireturn f104_38 rfl rfl ?_
      have eX : X = (-1, pos) := by
        rw [← hX]
        unfold rd2
        rw [dgt_n (by omega), if_pos (Or.inl rfl)]
      rw [eX]
      exact ⟨rI_of rfl, hT, fr_rf⟩
theorem c_104_1 {h : am_H} {t : Nat} {T : Int → Int} {L pos le fi se : Int} (hT : Tx h t T L pos le fi se) {hi : Int} (p1 : 0 ≤ pos) (p2 : pos ≤ 200) (l2 : 0 ≤ hi ∧ hi ≤ 1000) : am_X 1 104 0 (am_ent 104 [.ref t, .int (iI 1), .int (iI 0), .int (iI hi)]) [] h (fun r h' => rI r (rd1 T L pos hi).1 ∧ Tx h' t T L (rd1 T L pos hi).2 le fi se ∧ fr (fun q => q = t) h h') := by
  show am_X 1 104 0 [.ref t, .int (iI 1), .int (iI 0), .int (iI hi), am_u, am_u, am_u, am_u, am_u] [] h _
  have b1 := hT.in pos
  generalize hX : rd1 T L pos hi = X
  refine ax_iconst f104_0 ?_
  refine ax_istore (ls' := [_, _, _, _, _, _, _, _, _]) f104_1 (Nat.le_of_ble_eq_true rfl) rfl ?_
  refine ax_iload_n f104_3 rfl ?_
  refine ax_iconst f104_4 ?_
  refine ax_isub f104_5 ?_
  refine ax_istore (ls' := [_, _, _, _, _, _, _, _, _]) f104_6 (Nat.le_of_ble_eq_true rfl) rfl ?_
  refine ax_iload f104_8 rfl ?_
  refine ax_if_lt f104_10 rfl ⟨by omega, by omega⟩ (fun q10 => absurd q10 (by omega)) (fun q10 => ?_)
  refine ax_aload_n f104_13 rfl ?_
  refine ax_aload_n f104_14 rfl ?_
  refine ax_getf f104_15 hT.1 rfl ?_
  refine ax_cvI (rest := []) f104_18 hT.1 rfl rfl rfl rfl rfl rfl rfl rfl (c_105 hT ⟨by omega, by omega⟩) ?_
  intro _ e_
  obtain rfl := e_.symm
  clear e_
  refine ax_istore (ls' := [_, _, _, _, _, _, _, _, _]) f104_21 (Nat.le_of_ble_eq_true rfl) rfl ?_
  refine ax_iload f104_23 rfl ?_
  refine ax_bipush f104_25 ?_
  refine ax_icmp_lt f104_27 rfl ⟨by omega, by omega⟩ ⟨by omega, by omega⟩ (fun q27 => ?_) (fun q27 => ?_)
  · refine ax_iconst f104_37 ?_
    refine ax_ireturn f104_38 rfl rfl ?_
    have eX : X = (-1, pos) := by
      rw [← hX]
      unfold rd1
      rw [dgt_n (by omega), if_pos (Or.inl rfl)]
    rw [eX]
    exact ⟨rI_of rfl, hT, fr_rf⟩
  · refine ax_iload f104_30 rfl ?_
    refine ax_bipush f104_32 ?_
    refine ax_icmp_le f104_34 rfl ⟨by omega, by omega⟩ ⟨by omega, by omega⟩ (fun q34 => ?_) (fun q34 => ?_)
    · have ed := dgt_y (T := T) (L := L) (i := pos) (by omega) (by omega)
      refine ax_bipush f104_39 ?_
      refine ax_iload f104_41 rfl ?_
      refine ax_imul f104_43 ?_
      refine ax_iload f104_44 rfl ?_
      refine ax_iadd f104_46 ?_
      refine ax_bipush f104_47 ?_
      refine ax_isub f104_49 ?_
      refine ax_istore (ls' := [_, _, _, _, _, _, _, _, _]) f104_50 (Nat.le_of_ble_eq_true rfl) rfl ?_
      refine ax_iload f104_52 rfl ?_
      refine ax_if_ne f104_54 rfl ⟨by omega, by omega⟩ (fun q54 => absurd q54 (by omega)) (fun q54 => ?_)
      refine ax_iload f104_57 rfl ?_
      refine ax_goto f104_59 rfl ?_
      refine ax_istore (ls' := [_, _, _, _, _, _, _, _, _]) f104_67 (Nat.le_of_ble_eq_true rfl) rfl ?_
      refine ax_iload f104_69 rfl ?_
      refine ax_if_ne f104_71 rfl ⟨by omega, by omega⟩ (fun q71 => absurd q71 (by omega)) (fun q71 => ?_)
      refine ax_iload f104_74 rfl ?_
      refine ax_goto f104_76 rfl ?_
      refine ax_istore (ls' := [_, _, _, _, _, _, _, _, _]) f104_87 (Nat.le_of_ble_eq_true rfl) rfl ?_
      refine ax_iload f104_89 rfl ?_
      refine ax_iload_n f104_91 rfl ?_
      refine ax_icmp_lt f104_92 rfl ⟨by omega, by omega⟩ ⟨by omega, by omega⟩ (fun q92 => absurd q92 (by omega)) (fun q92 => ?_)
      refine ax_iload f104_95 rfl ?_
      refine ax_iload_n f104_97 rfl ?_
      refine ax_icmp_le f104_98 rfl ⟨by omega, by omega⟩ ⟨by omega, by omega⟩ (fun q98 => ?_) (fun q98 => ?_)
      · refine ax_aload_n f104_103 rfl ?_
        refine ax_dup f104_104 rfl ?_
        refine ax_getf f104_105 hT.1 rfl ?_
        refine ax_iconst f104_108 ?_
        refine ax_iadd f104_109 ?_
        refine ax_putfO f104_110 hT.1 rfl rfl rfl rfl (fun h1 o1 r1 => ?_)
        refine ax_iinc (ls' := [_, _, _, _, _, _, _, _, _]) f104_113 rfl (Nat.le_of_ble_eq_true rfl) rfl ?_
        refine ax_goto f104_116 rfl ?_
        refine ax_iload f104_8 rfl ?_
        refine ax_if_lt f104_10 rfl ⟨by omega, by omega⟩ (fun q10 => ?_) (fun q10 => absurd q10 (by omega))
        refine ax_iload f104_119 rfl ?_
        refine ax_ireturn f104_121 rfl rfl ?_
        have eX : X = (sg T L pos - 48, pos + 1) := by
          rw [← hX]
          unfold rd1
          rw [ed, if_neg (by omega)]
        rw [eX]
        exact ⟨rI_of (by dsimp only; omega), hT.ob o1 r1, r1⟩
      · refine ax_iconst f104_101 ?_
        refine ax_ireturn f104_102 rfl rfl ?_
        have eX : X = (-1, pos) := by
          rw [← hX]
          unfold rd1
          rw [ed, if_pos (by omega)]
        rw [eX]
        exact ⟨rI_of rfl, hT, fr_rf⟩
    · refine ax_iconst f104_37 ?_
      refine ax_ireturn f104_38 rfl rfl ?_
      have eX : X = (-1, pos) := by
        rw [← hX]
        unfold rd1
        rw [dgt_n (by omega), if_pos (Or.inl rfl)]
      rw [eX]
      exact ⟨rI_of rfl, hT, fr_rf⟩
end TXT
