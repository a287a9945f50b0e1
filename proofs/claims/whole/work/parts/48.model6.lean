/-! ===== the reference: texts ===== -/
section MTX
theorem dgt_in {T : Int → Int} {L q : Int} : -1 ≤ dgt T L q ∧ dgt T L q ≤ 9 := by unfold dgt; split <;> omega
/-- what reading the numbers of a command with letter c brings: 1 or 0, and the place -/
def rnp (T : Int → Int) (L c p : Int) : Int × Int :=
  if (rdF T L c p).1 = -1 then (0, (rdF T L c p).2) else if (rdS T L c (rdF T L c p).2).1 = -1 then (0, (rdS T L c (rdF T L c p).2).2) else (1, (rdS T L c (rdF T L c p).2).2)
theorem rdc_rnp {T : Int → Int} {L p : Int} (hl : sg T L p = 97 ∨ sg T L p = 99 ∨ sg T L p = 119 ∨ sg T L p = 102 ∨ sg T L p = 108 ∨ sg T L p = 115 ∨ sg T L p = 110 ∨ sg T L p = 107) : rdc T L p = rnp T L (sg T L p) (p + 1) := by
  unfold rdc rnp
  rw [if_pos hl]
theorem c_184 {h : am_H} {c th lk pa L sp fi se : Int} {T : Int → Int} (o : Mo h c th lk pa L sp fi se) (aT : oI h 130 120 T) (hL : 0 ≤ L ∧ L ≤ 120) (hT : ∀ j, 0 ≤ j → j < L → 0 ≤ T j ∧ T j ≤ 255) {z : Int} (h1 : 0 ≤ z ∧ z ≤ 1000) : am_X 1 184 0 (am_ent 184 [.ref 120, .int (iI z)]) [] h (fun r h' => rI r (dgt T L z) ∧ h' = h) := by
  show am_X 1 184 0 [.ref 120, .int (iI z)] [] h _
  obtain ⟨h1, h1b⟩ := h1
  by_cases c0 : z < L
  · have es : sg T L z = T z := if_pos ⟨h1, c0⟩
    have ht := hT z h1 c0
    by_cases c1 : 48 ≤ T z ∧ T z ≤ 57
    · refine ax_iload_n f184_0 rfl ?_
      refine ax_aload_n f184_1 rfl ?_
      refine ax_getf f184_2 o rfl ?_
      refine ax_icmp_ge f184_5 rfl ⟨by omega, by omega⟩ ⟨by omega, by omega⟩ (fun q5 => absurd q5 (by omega)) (fun q5 => ?_)
      refine ax_aload_n f184_8 rfl ?_
      refine ax_getf f184_9 o rfl ?_
      refine ax_iload_n f184_12 rfl ?_
      refine ax_ialdO f184_13 (by decide) aT (by omega) (by omega) rfl ?_
      refine ax_bipush f184_14 ?_
      refine ax_bipush f184_16 ?_
      refine ax_csI (rest := []) f184_18 (Or.inl rfl) rfl rfl rfl rfl rfl rfl (c_145 ⟨by omega, by omega⟩ ⟨by decide, by decide⟩ ⟨by decide, by decide⟩) ?_
      intro _ e_
      obtain rfl := e_.symm
      clear e_
      refine ax_nmI (b2i_t c1) ?_
      refine ax_if_eq f184_21 rfl ⟨by omega, by omega⟩ (fun q21 => absurd q21 (by omega)) (fun q21 => ?_)
      refine ax_aload_n f184_24 rfl ?_
      refine ax_getf f184_25 o rfl ?_
      refine ax_iload_n f184_28 rfl ?_
      refine ax_ialdO f184_29 (by decide) aT (by omega) (by omega) rfl ?_
      refine ax_bipush f184_30 ?_
      refine ax_isub f184_32 ?_
      refine ax_goto f184_33 rfl ?_
      refine ax_ireturn f184_37 rfl rfl ?_
      exact ⟨rI_of (by rw [dgt_y (by omega) (by omega), es]), rfl⟩
    · refine ax_iload_n f184_0 rfl ?_
      refine ax_aload_n f184_1 rfl ?_
      refine ax_getf f184_2 o rfl ?_
      refine ax_icmp_ge f184_5 rfl ⟨by omega, by omega⟩ ⟨by omega, by omega⟩ (fun q5 => absurd q5 (by omega)) (fun q5 => ?_)
      refine ax_aload_n f184_8 rfl ?_
      refine ax_getf f184_9 o rfl ?_
      refine ax_iload_n f184_12 rfl ?_
      refine ax_ialdO f184_13 (by decide) aT (by omega) (by omega) rfl ?_
      refine ax_bipush f184_14 ?_
      refine ax_bipush f184_16 ?_
      refine ax_csI (rest := []) f184_18 (Or.inl rfl) rfl rfl rfl rfl rfl rfl (c_145 ⟨by omega, by omega⟩ ⟨by decide, by decide⟩ ⟨by decide, by decide⟩) ?_
      intro _ e_
      obtain rfl := e_.symm
      clear e_
      refine ax_nmI (b2i_f c1) ?_
      refine ax_if_eq f184_21 rfl ⟨by omega, by omega⟩ (fun q21 => ?_) (fun q21 => absurd q21 (by omega))
      refine ax_iconst f184_36 ?_
      refine ax_ireturn f184_37 rfl rfl ?_
      exact ⟨rI_of (dgt_n (by omega)).symm, rfl⟩
  · have es : sg T L z = -1 := if_neg (by omega)
    refine ax_iload_n f184_0 rfl ?_
    refine ax_aload_n f184_1 rfl ?_
    refine ax_getf f184_2 o rfl ?_
    refine ax_icmp_ge f184_5 rfl ⟨by omega, by omega⟩ ⟨by omega, by omega⟩ (fun q5 => ?_) (fun q5 => absurd q5 (by omega))
    refine ax_iconst f184_36 ?_
    refine ax_ireturn f184_37 rfl rfl ?_
    exact ⟨rI_of (dgt_n (by omega)).symm, rfl⟩
theorem c_185 {h : am_H} {c th lk pa L sp fi se : Int} {T : Int → Int} (o : Mo h c th lk pa L sp fi se) (aT : oI h 130 120 T) (hL : 0 ≤ L ∧ L ≤ 120) (hT : ∀ j, 0 ≤ j → j < L → 0 ≤ T j ∧ T j ≤ 255) {lo hi : Int} (hp : 0 ≤ sp ∧ sp ≤ 500) (l1 : 0 ≤ lo ∧ lo ≤ 1000) (l2 : 0 ≤ hi ∧ hi ≤ 1000) : am_X 2 185 0 (am_ent 185 [.ref 120, .int (iI lo), .int (iI hi)]) [] h (fun r h' => rI r (rd2 T L sp lo hi).1 ∧ Mo h' c th lk pa L (rd2 T L sp lo hi).2 fi se ∧ fr (fun x => x = 120) h h') := by
  show am_X 2 185 0 [.ref 120, .int (iI lo), .int (iI hi), am_u, am_u] [] h _
  have F : fr (fun x => x = 120) h h := fr_rf
  refine ax_aload_n f185_0 rfl ?_
  refine ax_aload_n f185_1 rfl ?_
  refine ax_getf f185_2 o rfl ?_
  refine ax_cvI (rest := []) f185_5 o rfl rfl rfl rfl rfl rfl rfl rfl (c_184 o aT hL hT (by omega)) ?_
  intro _ e_
  obtain rfl := e_.symm
  clear e_
  have d1 := dgt_in (T := T) (L := L) (q := sp)
  refine ax_istore_n (ls' := [_, _, _, _, _]) f185_8 (Nat.le_of_ble_eq_true rfl) rfl ?_
  refine ax_iload_n f185_9 rfl ?_
  refine ax_iconst f185_10 ?_
  refine ax_icmp_eq f185_11 rfl ⟨by omega, by omega⟩ ⟨by omega, by omega⟩ (fun q11 => ?_) (fun q11 => ?_)
  · refine ax_iconst f185_33 ?_
    refine ax_ireturn f185_34 rfl rfl ?_
    have e : rd2 T L sp lo hi = (-1, sp) := by unfold rd2; rw [if_pos (by omega)]
    rw [e]
    exact ⟨rI_of rfl, o, F⟩
  · refine ax_bipush f185_14 ?_
    refine ax_iload_n f185_16 rfl ?_
    refine ax_imul f185_17 ?_
    refine ax_iload_n f185_18 rfl ?_
    refine ax_icmp_gt f185_19 rfl ⟨by omega, by omega⟩ ⟨by omega, by omega⟩ (fun q19 => ?_) (fun q19 => ?_)
    · refine ax_iconst f185_33 ?_
      refine ax_ireturn f185_34 rfl rfl ?_
      have e : rd2 T L sp lo hi = (-1, sp) := by unfold rd2; rw [if_pos (by omega)]
      rw [e]
      exact ⟨rI_of rfl, o, F⟩
    · refine ax_bipush f185_22 ?_
      refine ax_iload_n f185_24 rfl ?_
      refine ax_imul f185_25 ?_
      refine ax_bipush f185_26 ?_
      refine ax_iadd f185_28 ?_
      refine ax_iload_n f185_29 rfl ?_
      refine ax_icmp_ge f185_30 rfl ⟨by omega, by omega⟩ ⟨by omega, by omega⟩ (fun q30 => ?_) (fun q30 => ?_)
      · refine ax_aload_n f185_35 rfl ?_
        refine ax_dup f185_36 rfl ?_
        refine ax_getf f185_37 o rfl ?_
        refine ax_iconst f185_40 ?_
        refine ax_iadd f185_41 ?_
        refine ax_putfO f185_42 o rfl rfl rfl rfl (fun hp2 o2 r2 => ?_)
        have o : Mo hp2 _ _ _ _ _ _ _ _ := o2
        have aT := aT.fr r2 (by omega)
        have F := F.trans (r2.mono fun x e => by omega)
        refine ax_aload_n f185_45 rfl ?_
        refine ax_aload_n f185_46 rfl ?_
        refine ax_getf f185_47 o rfl ?_
        refine ax_cvI (rest := []) f185_50 o rfl rfl rfl rfl rfl rfl rfl rfl (c_184 o aT hL hT (by omega)) ?_
        intro _ e_
        obtain rfl := e_.symm
        clear e_
        have d2 := dgt_in (T := T) (L := L) (q := sp + 1)
        refine ax_istore (ls' := [_, _, _, _, _]) f185_53 (Nat.le_of_ble_eq_true rfl) rfl ?_
        refine ax_iload f185_55 rfl ?_
        refine ax_iconst f185_57 ?_
        refine ax_icmp_eq f185_58 rfl ⟨by omega, by omega⟩ ⟨by omega, by omega⟩ (fun q58 => ?_) (fun q58 => ?_)
        · refine ax_iconst f185_76 ?_
          refine ax_ireturn f185_77 rfl rfl ?_
          have e : rd2 T L sp lo hi = (-1, sp + 1) := by unfold rd2; rw [if_neg (by omega), if_pos (by omega)]
          rw [e]
          exact ⟨rI_of rfl, o, F⟩
        · refine ax_bipush f185_61 ?_
          refine ax_iload_n f185_63 rfl ?_
          refine ax_imul f185_64 ?_
          refine ax_iload f185_65 rfl ?_
          refine ax_iadd f185_67 ?_
          refine ax_iload_n f185_68 rfl ?_
          refine ax_iload_n f185_69 rfl ?_
          refine ax_csI (rest := []) f185_70 (Or.inl rfl) rfl rfl rfl rfl rfl rfl (c_145 ⟨by omega, by omega⟩ ⟨by omega, by omega⟩ ⟨by omega, by omega⟩) ?_
          intro _ e_
          obtain rfl := e_.symm
          clear e_
          by_cases c1 : lo ≤ 10 * dgt T L sp + dgt T L (sp + 1) ∧ 10 * dgt T L sp + dgt T L (sp + 1) ≤ hi
          · refine ax_nmI (b2i_t c1) ?_
            refine ax_if_ne f185_73 rfl ⟨by omega, by omega⟩ (fun q73 => ?_) (fun q73 => absurd q73 (by omega))
            refine ax_aload_n f185_78 rfl ?_
            refine ax_dup f185_79 rfl ?_
            refine ax_getf f185_80 o rfl ?_
            refine ax_iconst f185_83 ?_
            refine ax_iadd f185_84 ?_
            refine ax_putfO f185_85 o rfl rfl rfl rfl (fun hp16 o16 r16 => ?_)
            have o : Mo hp16 _ _ _ _ _ _ _ _ := o16
            have aT := aT.fr r16 (by omega)
            have F := F.trans (r16.mono fun x e => by omega)
            refine ax_bipush f185_88 ?_
            refine ax_iload_n f185_90 rfl ?_
            refine ax_imul f185_91 ?_
            refine ax_iload f185_92 rfl ?_
            refine ax_iadd f185_94 ?_
            refine ax_ireturn f185_95 rfl rfl ?_
            have e : rd2 T L sp lo hi = (10 * dgt T L sp + dgt T L (sp + 1), sp + 2) := by unfold rd2; rw [if_neg (by omega), if_neg (by omega)]
            rw [e]
            have e2 : sp + 1 + 1 = sp + 2 := by omega
            rw [e2] at o
            exact ⟨rI_of rfl, o, F⟩
          · refine ax_nmI (b2i_f c1) ?_
            refine ax_if_ne f185_73 rfl ⟨by omega, by omega⟩ (fun q73 => absurd q73 (by omega)) (fun q73 => ?_)
            refine ax_iconst f185_76 ?_
            refine ax_ireturn f185_77 rfl rfl ?_
            have e : rd2 T L sp lo hi = (-1, sp + 1) := by unfold rd2; rw [if_neg (by omega), if_pos (by omega)]
            rw [e]
            exact ⟨rI_of rfl, o, F⟩
      · refine ax_iconst f185_33 ?_
        refine ax_ireturn f185_34 rfl rfl ?_
        have e : rd2 T L sp lo hi = (-1, sp) := by unfold rd2; rw [if_pos (by omega)]
        rw [e]
        exact ⟨rI_of rfl, o, F⟩
theorem c_186 {h : am_H} {c th lk pa L sp fi se : Int} {T : Int → Int} (o : Mo h c th lk pa L sp fi se) (aT : oI h 130 120 T) (hL : 0 ≤ L ∧ L ≤ 120) (hT : ∀ j, 0 ≤ j → j < L → 0 ≤ T j ∧ T j ≤ 255) {hi : Int} (hp : 0 ≤ sp ∧ sp ≤ 500) (l2 : 0 ≤ hi ∧ hi ≤ 1000) : am_X 2 186 0 (am_ent 186 [.ref 120, .int (iI hi)]) [] h (fun r h' => rI r (rd1 T L sp hi).1 ∧ Mo h' c th lk pa L (rd1 T L sp hi).2 fi se ∧ fr (fun x => x = 120) h h') := by
  show am_X 2 186 0 [.ref 120, .int (iI hi), am_u] [] h _
  have F : fr (fun x => x = 120) h h := fr_rf
  refine ax_aload_n f186_0 rfl ?_
  refine ax_aload_n f186_1 rfl ?_
  refine ax_getf f186_2 o rfl ?_
  refine ax_cvI (rest := []) f186_5 o rfl rfl rfl rfl rfl rfl rfl rfl (c_184 o aT hL hT (by omega)) ?_
  intro _ e_
  obtain rfl := e_.symm
  clear e_
  have d1 := dgt_in (T := T) (L := L) (q := sp)
  refine ax_istore_n (ls' := [_, _, _]) f186_8 (Nat.le_of_ble_eq_true rfl) rfl ?_
  refine ax_iload_n f186_9 rfl ?_
  refine ax_iconst f186_10 ?_
  refine ax_icmp_eq f186_11 rfl ⟨by omega, by omega⟩ ⟨by omega, by omega⟩ (fun q11 => ?_) (fun q11 => ?_)
  · refine ax_iconst f186_19 ?_
    refine ax_ireturn f186_20 rfl rfl ?_
    have e : rd1 T L sp hi = (-1, sp) := by unfold rd1; rw [if_pos (by omega)]
    rw [e]
    exact ⟨rI_of rfl, o, F⟩
  · refine ax_iload_n f186_14 rfl ?_
    refine ax_iload_n f186_15 rfl ?_
    refine ax_icmp_le f186_16 rfl ⟨by omega, by omega⟩ ⟨by omega, by omega⟩ (fun q16 => ?_) (fun q16 => ?_)
    · refine ax_aload_n f186_21 rfl ?_
      refine ax_dup f186_22 rfl ?_
      refine ax_getf f186_23 o rfl ?_
      refine ax_iconst f186_26 ?_
      refine ax_iadd f186_27 ?_
      refine ax_putfO f186_28 o rfl rfl rfl rfl (fun hp2 o2 r2 => ?_)
      have o : Mo hp2 _ _ _ _ _ _ _ _ := o2
      have aT := aT.fr r2 (by omega)
      have F := F.trans (r2.mono fun x e => by omega)
      refine ax_iload_n f186_31 rfl ?_
      refine ax_ireturn f186_32 rfl rfl ?_
      have e : rd1 T L sp hi = (dgt T L sp, sp + 1) := by unfold rd1; rw [if_neg (by omega)]
      rw [e]
      exact ⟨rI_of rfl, o, F⟩
    · refine ax_iconst f186_19 ?_
      refine ax_ireturn f186_20 rfl rfl ?_
      have e : rd1 T L sp hi = (-1, sp) := by unfold rd1; rw [if_pos (by omega)]
      rw [e]
      exact ⟨rI_of rfl, o, F⟩
theorem c_187 {h : am_H} {c th lk pa L sp fi se : Int} {T : Int → Int} (o : Mo h c th lk pa L sp fi se) (aT : oI h 130 120 T) (hL : 0 ≤ L ∧ L ≤ 120) (hT : ∀ j, 0 ≤ j → j < L → 0 ≤ T j ∧ T j ≤ 255) {z : Int} (hp : 0 ≤ sp ∧ sp ≤ 400) (hc : z = 97 ∨ z = 99 ∨ z = 119 ∨ z = 102 ∨ z = 108 ∨ z = 115 ∨ z = 110 ∨ z = 107) : am_X 3 187 0 (am_ent 187 [.ref 120, .int (iI z)]) [] h (fun r h' => rI r (rnp T L z sp).1 ∧ (∃ fi' se', Mo h' c th lk pa L (rnp T L z sp).2 fi' se' ∧ ((rnp T L z sp).1 = 1 → fi' = (rdF T L z sp).1 ∧ se' = (rdS T L z (rdF T L z sp).2).1)) ∧ fr (fun x => x = 120) h h') := by
  show am_X 3 187 0 [.ref 120, .int (iI z)] [] h _
  have F : fr (fun x => x = 120) h h := fr_rf
  rcases hc with rfl | rfl | rfl | rfl | rfl | rfl | rfl | rfl
  · have eF : rdF T L 97 sp = (rd2 T L sp 0 47) := by unfold rdF; rfl
    have eS : ∀ q, rdS T L 97 q = (0, q) := fun q => by unfold rdS; rfl
    refine ax_aload_n f187_0 rfl ?_
    refine ax_iconst f187_1 ?_
    refine ax_putfO f187_2 o rfl rfl rfl rfl (fun hp1 o1 r1 => ?_)
    have o : Mo hp1 _ _ _ _ _ _ _ _ := o1
    have aT := aT.fr r1 (by omega)
    have F := F.trans (r1.mono fun x e => by omega)
    refine ax_iload_n f187_5 rfl ?_
    refine ax_tswI f187_6 ⟨by omega, by omega⟩ (by omega) (by omega) rfl rfl ?_
    refine ax_aload_n f187_112 rfl ?_
    refine ax_aload_n f187_113 rfl ?_
    refine ax_iconst f187_114 ?_
    refine ax_bipush f187_115 ?_
    refine ax_cvI (rest := [_]) f187_117 o rfl rfl rfl rfl rfl rfl rfl rfl (c_185 o aT hL hT (by omega) (by omega) (by omega)) ?_
    rintro h82 ⟨o8, f8⟩
    have b1 := rd2_sp (T := T) (L := L) (p := sp) (lo := 0) (hi := 47)
    have o : Mo h82 _ _ _ _ _ _ _ _ := o8
    have aT := aT.fr f8 (by omega)
    have F := F.trans (f8.mono fun x e => by omega)
    refine ax_putfO f187_120 o rfl rfl rfl rfl (fun hp3 o3 r3 => ?_)
    have o : Mo hp3 _ _ _ _ _ _ _ _ := o3
    have aT := aT.fr r3 (by omega)
    have F := F.trans (r3.mono fun x e => by omega)
    refine ax_goto f187_123 rfl ?_
    refine ax_aload_n f187_243 rfl ?_
    refine ax_getf f187_244 o rfl ?_
    refine ax_iconst f187_247 ?_
    refine ax_icmp_eq f187_248 rfl ⟨by omega, by omega⟩ ⟨by omega, by omega⟩ (fun q248 => ?_) (fun q248 => ?_)
    · refine ax_iconst f187_263 ?_
      refine ax_ireturn f187_264 rfl rfl ?_
      have e : rnp T L 97 sp = (0, (rd2 T L sp 0 47).2) := by unfold rnp; rw [eF, if_pos (by omega)]
      rw [e]
      exact ⟨rI_of rfl, ⟨_, _, o, fun z => absurd (show (0 : Int) = 1 from z) (by decide)⟩, F⟩
    · refine ax_aload_n f187_251 rfl ?_
      refine ax_getf f187_252 o rfl ?_
      refine ax_iconst f187_255 ?_
      refine ax_icmp_eq f187_256 rfl ⟨by omega, by omega⟩ ⟨by omega, by omega⟩ (fun q256 => absurd q256 (by omega)) (fun q256 => ?_)
      refine ax_iconst f187_259 ?_
      refine ax_goto f187_260 rfl ?_
      refine ax_ireturn f187_264 rfl rfl ?_
      have e : rnp T L 97 sp = (1, (rd2 T L sp 0 47).2) := by unfold rnp; rw [eF, if_neg (by omega), eS]; exact if_neg (fun z => absurd (show (0 : Int) = -1 from z) (by decide))
      rw [e]
      exact ⟨rI_of rfl, ⟨_, _, o, fun _ => by rw [eF]; exact ⟨rfl, by rw [eS]⟩⟩, F⟩
  · have eF : rdF T L 99 sp = (rd2 T L sp 0 47) := by unfold rdF; rfl
    have eS : ∀ q, rdS T L 99 q = (0, q) := fun q => by unfold rdS; rfl
    refine ax_aload_n f187_0 rfl ?_
    refine ax_iconst f187_1 ?_
    refine ax_putfO f187_2 o rfl rfl rfl rfl (fun hp1 o1 r1 => ?_)
    have o : Mo hp1 _ _ _ _ _ _ _ _ := o1
    have aT := aT.fr r1 (by omega)
    have F := F.trans (r1.mono fun x e => by omega)
    refine ax_iload_n f187_5 rfl ?_
    refine ax_tswI f187_6 ⟨by omega, by omega⟩ (by omega) (by omega) rfl rfl ?_
    refine ax_aload_n f187_112 rfl ?_
    refine ax_aload_n f187_113 rfl ?_
    refine ax_iconst f187_114 ?_
    refine ax_bipush f187_115 ?_
    refine ax_cvI (rest := [_]) f187_117 o rfl rfl rfl rfl rfl rfl rfl rfl (c_185 o aT hL hT (by omega) (by omega) (by omega)) ?_
    rintro h82 ⟨o8, f8⟩
    have b1 := rd2_sp (T := T) (L := L) (p := sp) (lo := 0) (hi := 47)
    have o : Mo h82 _ _ _ _ _ _ _ _ := o8
    have aT := aT.fr f8 (by omega)
    have F := F.trans (f8.mono fun x e => by omega)
    refine ax_putfO f187_120 o rfl rfl rfl rfl (fun hp3 o3 r3 => ?_)
    have o : Mo hp3 _ _ _ _ _ _ _ _ := o3
    have aT := aT.fr r3 (by omega)
    have F := F.trans (r3.mono fun x e => by omega)
    refine ax_goto f187_123 rfl ?_
    refine ax_aload_n f187_243 rfl ?_
    refine ax_getf f187_244 o rfl ?_
    refine ax_iconst f187_247 ?_
    refine ax_icmp_eq f187_248 rfl ⟨by omega, by omega⟩ ⟨by omega, by omega⟩ (fun q248 => ?_) (fun q248 => ?_)
    · refine ax_iconst f187_263 ?_
      refine ax_ireturn f187_264 rfl rfl ?_
      have e : rnp T L 99 sp = (0, (rd2 T L sp 0 47).2) := by unfold rnp; rw [eF, if_pos (by omega)]
      rw [e]
      exact ⟨rI_of rfl, ⟨_, _, o, fun z => absurd (show (0 : Int) = 1 from z) (by decide)⟩, F⟩
    · refine ax_aload_n f187_251 rfl ?_
      refine ax_getf f187_252 o rfl ?_
      refine ax_iconst f187_255 ?_
      refine ax_icmp_eq f187_256 rfl ⟨by omega, by omega⟩ ⟨by omega, by omega⟩ (fun q256 => absurd q256 (by omega)) (fun q256 => ?_)
      refine ax_iconst f187_259 ?_
      refine ax_goto f187_260 rfl ?_
      refine ax_ireturn f187_264 rfl rfl ?_
      have e : rnp T L 99 sp = (1, (rd2 T L sp 0 47).2) := by unfold rnp; rw [eF, if_neg (by omega), eS]; exact if_neg (fun z => absurd (show (0 : Int) = -1 from z) (by decide))
      rw [e]
      exact ⟨rI_of rfl, ⟨_, _, o, fun _ => by rw [eF]; exact ⟨rfl, by rw [eS]⟩⟩, F⟩
  · have eF : rdF T L 119 sp = (rd2 T L sp 0 47) := by unfold rdF; rfl
    have eS : rdS T L 119 (rd2 T L sp 0 47).2 = (rd2 T L (rd2 T L sp 0 47).2 1 99) := by unfold rdS; rfl
    refine ax_aload_n f187_0 rfl ?_
    refine ax_iconst f187_1 ?_
    refine ax_putfO f187_2 o rfl rfl rfl rfl (fun hp1 o1 r1 => ?_)
    have o : Mo hp1 _ _ _ _ _ _ _ _ := o1
    have aT := aT.fr r1 (by omega)
    have F := F.trans (r1.mono fun x e => by omega)
    refine ax_iload_n f187_5 rfl ?_
    refine ax_tswI f187_6 ⟨by omega, by omega⟩ (by omega) (by omega) rfl rfl ?_
    refine ax_aload_n f187_126 rfl ?_
    refine ax_aload_n f187_127 rfl ?_
    refine ax_iconst f187_128 ?_
    refine ax_bipush f187_129 ?_
    refine ax_cvI (rest := [_]) f187_131 o rfl rfl rfl rfl rfl rfl rfl rfl (c_185 o aT hL hT (by omega) (by omega) (by omega)) ?_
    rintro h82 ⟨o8, f8⟩
    have b1 := rd2_sp (T := T) (L := L) (p := sp) (lo := 0) (hi := 47)
    have o : Mo h82 _ _ _ _ _ _ _ _ := o8
    have aT := aT.fr f8 (by omega)
    have F := F.trans (f8.mono fun x e => by omega)
    refine ax_putfO f187_134 o rfl rfl rfl rfl (fun hp3 o3 r3 => ?_)
    have o : Mo hp3 _ _ _ _ _ _ _ _ := o3
    have aT := aT.fr r3 (by omega)
    have F := F.trans (r3.mono fun x e => by omega)
    refine ax_aload_n f187_137 rfl ?_
    refine ax_aload_n f187_138 rfl ?_
    refine ax_getf f187_139 o rfl ?_
    refine ax_iconst f187_142 ?_
    refine ax_icmp_ne f187_143 rfl ⟨by omega, by omega⟩ ⟨by omega, by omega⟩ (fun q143 => ?_) (fun q143 => ?_)
    · refine ax_aload_n f187_150 rfl ?_
      refine ax_iconst f187_151 ?_
      refine ax_bipush f187_152 ?_
      refine ax_cvI (rest := [_]) f187_154 o rfl rfl rfl rfl rfl rfl rfl rfl (c_185 o aT hL hT (by omega) (by omega) (by omega)) ?_
      rintro h821 ⟨o8, f8⟩
      have b2 := rd2_sp (T := T) (L := L) (p := (rd2 T L sp 0 47).2) (lo := 1) (hi := 99)
      have o : Mo h821 _ _ _ _ _ _ _ _ := o8
      have aT := aT.fr f8 (by omega)
      have F := F.trans (f8.mono fun x e => by omega)
      refine ax_putfO f187_157 o rfl rfl rfl rfl (fun hp22 o22 r22 => ?_)
      have o : Mo hp22 _ _ _ _ _ _ _ _ := o22
      have aT := aT.fr r22 (by omega)
      have F := F.trans (r22.mono fun x e => by omega)
      refine ax_goto f187_160 rfl ?_
      refine ax_aload_n f187_243 rfl ?_
      refine ax_getf f187_244 o rfl ?_
      refine ax_iconst f187_247 ?_
      refine ax_icmp_eq f187_248 rfl ⟨by omega, by omega⟩ ⟨by omega, by omega⟩ (fun q248 => absurd q248 (by omega)) (fun q248 => ?_)
      refine ax_aload_n f187_251 rfl ?_
      refine ax_getf f187_252 o rfl ?_
      refine ax_iconst f187_255 ?_
      refine ax_icmp_eq f187_256 rfl ⟨by omega, by omega⟩ ⟨by omega, by omega⟩ (fun q256 => ?_) (fun q256 => ?_)
      · refine ax_iconst f187_263 ?_
        refine ax_ireturn f187_264 rfl rfl ?_
        have e : rnp T L 119 sp = (0, (rd2 T L (rd2 T L sp 0 47).2 1 99).2) := by unfold rnp; rw [eF, if_neg (by omega), eS, if_pos (by omega)]
        rw [e]
        exact ⟨rI_of rfl, ⟨_, _, o, fun z => absurd (show (0 : Int) = 1 from z) (by decide)⟩, F⟩
      · refine ax_iconst f187_259 ?_
        refine ax_goto f187_260 rfl ?_
        refine ax_ireturn f187_264 rfl rfl ?_
        have e : rnp T L 119 sp = (1, (rd2 T L (rd2 T L sp 0 47).2 1 99).2) := by unfold rnp; rw [eF, if_neg (by omega), eS, if_neg (by omega)]
        rw [e]
        exact ⟨rI_of rfl, ⟨_, _, o, fun _ => by rw [eF]; exact ⟨rfl, by rw [eS]⟩⟩, F⟩
    · refine ax_iconst f187_146 ?_
      refine ax_goto f187_147 rfl ?_
      refine ax_putfO f187_157 o rfl rfl rfl rfl (fun hp21 o21 r21 => ?_)
      have o : Mo hp21 _ _ _ _ _ _ _ _ := o21
      have aT := aT.fr r21 (by omega)
      have F := F.trans (r21.mono fun x e => by omega)
      refine ax_goto f187_160 rfl ?_
      refine ax_aload_n f187_243 rfl ?_
      refine ax_getf f187_244 o rfl ?_
      refine ax_iconst f187_247 ?_
      refine ax_icmp_eq f187_248 rfl ⟨by omega, by omega⟩ ⟨by omega, by omega⟩ (fun q248 => ?_) (fun q248 => absurd q248 (by omega))
      refine ax_iconst f187_263 ?_
      refine ax_ireturn f187_264 rfl rfl ?_
      have e : rnp T L 119 sp = (0, (rd2 T L sp 0 47).2) := by unfold rnp; rw [eF, if_pos (by omega)]
      rw [e]
      exact ⟨rI_of rfl, ⟨_, _, o, fun z => absurd (show (0 : Int) = 1 from z) (by decide)⟩, F⟩
  · have eF : rdF T L 102 sp = (rd2 T L sp 1 47) := by unfold rdF; rfl
    have eS : ∀ q, rdS T L 102 q = (0, q) := fun q => by unfold rdS; rfl
    refine ax_aload_n f187_0 rfl ?_
    refine ax_iconst f187_1 ?_
    refine ax_putfO f187_2 o rfl rfl rfl rfl (fun hp1 o1 r1 => ?_)
    have o : Mo hp1 _ _ _ _ _ _ _ _ := o1
    have aT := aT.fr r1 (by omega)
    have F := F.trans (r1.mono fun x e => by omega)
    refine ax_iload_n f187_5 rfl ?_
    refine ax_tswI f187_6 ⟨by omega, by omega⟩ (by omega) (by omega) rfl rfl ?_
    refine ax_aload_n f187_163 rfl ?_
    refine ax_aload_n f187_164 rfl ?_
    refine ax_iconst f187_165 ?_
    refine ax_bipush f187_166 ?_
    refine ax_cvI (rest := [_]) f187_168 o rfl rfl rfl rfl rfl rfl rfl rfl (c_185 o aT hL hT (by omega) (by omega) (by omega)) ?_
    rintro h82 ⟨o8, f8⟩
    have b1 := rd2_sp (T := T) (L := L) (p := sp) (lo := 1) (hi := 47)
    have o : Mo h82 _ _ _ _ _ _ _ _ := o8
    have aT := aT.fr f8 (by omega)
    have F := F.trans (f8.mono fun x e => by omega)
    refine ax_putfO f187_171 o rfl rfl rfl rfl (fun hp3 o3 r3 => ?_)
    have o : Mo hp3 _ _ _ _ _ _ _ _ := o3
    have aT := aT.fr r3 (by omega)
    have F := F.trans (r3.mono fun x e => by omega)
    refine ax_goto f187_174 rfl ?_
    refine ax_aload_n f187_243 rfl ?_
    refine ax_getf f187_244 o rfl ?_
    refine ax_iconst f187_247 ?_
    refine ax_icmp_eq f187_248 rfl ⟨by omega, by omega⟩ ⟨by omega, by omega⟩ (fun q248 => ?_) (fun q248 => ?_)
    · refine ax_iconst f187_263 ?_
      refine ax_ireturn f187_264 rfl rfl ?_
      have e : rnp T L 102 sp = (0, (rd2 T L sp 1 47).2) := by unfold rnp; rw [eF, if_pos (by omega)]
      rw [e]
      exact ⟨rI_of rfl, ⟨_, _, o, fun z => absurd (show (0 : Int) = 1 from z) (by decide)⟩, F⟩
    · refine ax_aload_n f187_251 rfl ?_
      refine ax_getf f187_252 o rfl ?_
      refine ax_iconst f187_255 ?_
      refine ax_icmp_eq f187_256 rfl ⟨by omega, by omega⟩ ⟨by omega, by omega⟩ (fun q256 => absurd q256 (by omega)) (fun q256 => ?_)
      refine ax_iconst f187_259 ?_
      refine ax_goto f187_260 rfl ?_
      refine ax_ireturn f187_264 rfl rfl ?_
      have e : rnp T L 102 sp = (1, (rd2 T L sp 1 47).2) := by unfold rnp; rw [eF, if_neg (by omega), eS]; exact if_neg (fun z => absurd (show (0 : Int) = -1 from z) (by decide))
      rw [e]
      exact ⟨rI_of rfl, ⟨_, _, o, fun _ => by rw [eF]; exact ⟨rfl, by rw [eS]⟩⟩, F⟩
  · have eF : rdF T L 108 sp = (rd2 T L sp 0 11) := by unfold rdF; rfl
    have eS : rdS T L 108 (rd2 T L sp 0 11).2 = (rd1 T L (rd2 T L sp 0 11).2 4) := by unfold rdS; rfl
    refine ax_aload_n f187_0 rfl ?_
    refine ax_iconst f187_1 ?_
    refine ax_putfO f187_2 o rfl rfl rfl rfl (fun hp1 o1 r1 => ?_)
    have o : Mo hp1 _ _ _ _ _ _ _ _ := o1
    have aT := aT.fr r1 (by omega)
    have F := F.trans (r1.mono fun x e => by omega)
    refine ax_iload_n f187_5 rfl ?_
    refine ax_tswI f187_6 ⟨by omega, by omega⟩ (by omega) (by omega) rfl rfl ?_
    refine ax_aload_n f187_177 rfl ?_
    refine ax_aload_n f187_178 rfl ?_
    refine ax_iconst f187_179 ?_
    refine ax_bipush f187_180 ?_
    refine ax_cvI (rest := [_]) f187_182 o rfl rfl rfl rfl rfl rfl rfl rfl (c_185 o aT hL hT (by omega) (by omega) (by omega)) ?_
    rintro h82 ⟨o8, f8⟩
    have b1 := rd2_sp (T := T) (L := L) (p := sp) (lo := 0) (hi := 11)
    have o : Mo h82 _ _ _ _ _ _ _ _ := o8
    have aT := aT.fr f8 (by omega)
    have F := F.trans (f8.mono fun x e => by omega)
    refine ax_putfO f187_185 o rfl rfl rfl rfl (fun hp3 o3 r3 => ?_)
    have o : Mo hp3 _ _ _ _ _ _ _ _ := o3
    have aT := aT.fr r3 (by omega)
    have F := F.trans (r3.mono fun x e => by omega)
    refine ax_aload_n f187_188 rfl ?_
    refine ax_aload_n f187_189 rfl ?_
    refine ax_getf f187_190 o rfl ?_
    refine ax_iconst f187_193 ?_
    refine ax_icmp_ne f187_194 rfl ⟨by omega, by omega⟩ ⟨by omega, by omega⟩ (fun q194 => ?_) (fun q194 => ?_)
    · refine ax_aload_n f187_201 rfl ?_
      refine ax_iconst f187_202 ?_
      refine ax_cvI (rest := [_]) f187_203 o rfl rfl rfl rfl rfl rfl rfl rfl (c_186 o aT hL hT (by omega) (by omega)) ?_
      rintro h821 ⟨o8, f8⟩
      have b2 := rd1_sp (T := T) (L := L) (p := (rd2 T L sp 0 11).2) (hi := 4)
      have o : Mo h821 _ _ _ _ _ _ _ _ := o8
      have aT := aT.fr f8 (by omega)
      have F := F.trans (f8.mono fun x e => by omega)
      refine ax_putfO f187_206 o rfl rfl rfl rfl (fun hp22 o22 r22 => ?_)
      have o : Mo hp22 _ _ _ _ _ _ _ _ := o22
      have aT := aT.fr r22 (by omega)
      have F := F.trans (r22.mono fun x e => by omega)
      refine ax_goto f187_209 rfl ?_
      refine ax_aload_n f187_243 rfl ?_
      refine ax_getf f187_244 o rfl ?_
      refine ax_iconst f187_247 ?_
      refine ax_icmp_eq f187_248 rfl ⟨by omega, by omega⟩ ⟨by omega, by omega⟩ (fun q248 => absurd q248 (by omega)) (fun q248 => ?_)
      refine ax_aload_n f187_251 rfl ?_
      refine ax_getf f187_252 o rfl ?_
      refine ax_iconst f187_255 ?_
      refine ax_icmp_eq f187_256 rfl ⟨by omega, by omega⟩ ⟨by omega, by omega⟩ (fun q256 => ?_) (fun q256 => ?_)
      · refine ax_iconst f187_263 ?_
        refine ax_ireturn f187_264 rfl rfl ?_
        have e : rnp T L 108 sp = (0, (rd1 T L (rd2 T L sp 0 11).2 4).2) := by unfold rnp; rw [eF, if_neg (by omega), eS, if_pos (by omega)]
        rw [e]
        exact ⟨rI_of rfl, ⟨_, _, o, fun z => absurd (show (0 : Int) = 1 from z) (by decide)⟩, F⟩
      · refine ax_iconst f187_259 ?_
        refine ax_goto f187_260 rfl ?_
        refine ax_ireturn f187_264 rfl rfl ?_
        have e : rnp T L 108 sp = (1, (rd1 T L (rd2 T L sp 0 11).2 4).2) := by unfold rnp; rw [eF, if_neg (by omega), eS, if_neg (by omega)]
        rw [e]
        exact ⟨rI_of rfl, ⟨_, _, o, fun _ => by rw [eF]; exact ⟨rfl, by rw [eS]⟩⟩, F⟩
    · refine ax_iconst f187_197 ?_
      refine ax_goto f187_198 rfl ?_
      refine ax_putfO f187_206 o rfl rfl rfl rfl (fun hp21 o21 r21 => ?_)
      have o : Mo hp21 _ _ _ _ _ _ _ _ := o21
      have aT := aT.fr r21 (by omega)
      have F := F.trans (r21.mono fun x e => by omega)
      refine ax_goto f187_209 rfl ?_
      refine ax_aload_n f187_243 rfl ?_
      refine ax_getf f187_244 o rfl ?_
      refine ax_iconst f187_247 ?_
      refine ax_icmp_eq f187_248 rfl ⟨by omega, by omega⟩ ⟨by omega, by omega⟩ (fun q248 => ?_) (fun q248 => absurd q248 (by omega))
      refine ax_iconst f187_263 ?_
      refine ax_ireturn f187_264 rfl rfl ?_
      have e : rnp T L 108 sp = (0, (rd2 T L sp 0 11).2) := by unfold rnp; rw [eF, if_pos (by omega)]
      rw [e]
      exact ⟨rI_of rfl, ⟨_, _, o, fun z => absurd (show (0 : Int) = 1 from z) (by decide)⟩, F⟩
  · have eF : rdF T L 115 sp = (rd2 T L sp 1 11) := by unfold rdF; rfl
    have eS : ∀ q, rdS T L 115 q = (0, q) := fun q => by unfold rdS; rfl
    refine ax_aload_n f187_0 rfl ?_
    refine ax_iconst f187_1 ?_
    refine ax_putfO f187_2 o rfl rfl rfl rfl (fun hp1 o1 r1 => ?_)
    have o : Mo hp1 _ _ _ _ _ _ _ _ := o1
    have aT := aT.fr r1 (by omega)
    have F := F.trans (r1.mono fun x e => by omega)
    refine ax_iload_n f187_5 rfl ?_
    refine ax_tswI f187_6 ⟨by omega, by omega⟩ (by omega) (by omega) rfl rfl ?_
    refine ax_aload_n f187_212 rfl ?_
    refine ax_aload_n f187_213 rfl ?_
    refine ax_iconst f187_214 ?_
    refine ax_bipush f187_215 ?_
    refine ax_cvI (rest := [_]) f187_217 o rfl rfl rfl rfl rfl rfl rfl rfl (c_185 o aT hL hT (by omega) (by omega) (by omega)) ?_
    rintro h82 ⟨o8, f8⟩
    have b1 := rd2_sp (T := T) (L := L) (p := sp) (lo := 1) (hi := 11)
    have o : Mo h82 _ _ _ _ _ _ _ _ := o8
    have aT := aT.fr f8 (by omega)
    have F := F.trans (f8.mono fun x e => by omega)
    refine ax_putfO f187_220 o rfl rfl rfl rfl (fun hp3 o3 r3 => ?_)
    have o : Mo hp3 _ _ _ _ _ _ _ _ := o3
    have aT := aT.fr r3 (by omega)
    have F := F.trans (r3.mono fun x e => by omega)
    refine ax_goto f187_223 rfl ?_
    refine ax_aload_n f187_243 rfl ?_
    refine ax_getf f187_244 o rfl ?_
    refine ax_iconst f187_247 ?_
    refine ax_icmp_eq f187_248 rfl ⟨by omega, by omega⟩ ⟨by omega, by omega⟩ (fun q248 => ?_) (fun q248 => ?_)
    · refine ax_iconst f187_263 ?_
      refine ax_ireturn f187_264 rfl rfl ?_
      have e : rnp T L 115 sp = (0, (rd2 T L sp 1 11).2) := by unfold rnp; rw [eF, if_pos (by omega)]
      rw [e]
      exact ⟨rI_of rfl, ⟨_, _, o, fun z => absurd (show (0 : Int) = 1 from z) (by decide)⟩, F⟩
    · refine ax_aload_n f187_251 rfl ?_
      refine ax_getf f187_252 o rfl ?_
      refine ax_iconst f187_255 ?_
      refine ax_icmp_eq f187_256 rfl ⟨by omega, by omega⟩ ⟨by omega, by omega⟩ (fun q256 => absurd q256 (by omega)) (fun q256 => ?_)
      refine ax_iconst f187_259 ?_
      refine ax_goto f187_260 rfl ?_
      refine ax_ireturn f187_264 rfl rfl ?_
      have e : rnp T L 115 sp = (1, (rd2 T L sp 1 11).2) := by unfold rnp; rw [eF, if_neg (by omega), eS]; exact if_neg (fun z => absurd (show (0 : Int) = -1 from z) (by decide))
      rw [e]
      exact ⟨rI_of rfl, ⟨_, _, o, fun _ => by rw [eF]; exact ⟨rfl, by rw [eS]⟩⟩, F⟩
  · have eF : rdF T L 110 sp = ((0 : Int), sp) := by unfold rdF; rfl
    have eS : ∀ q, rdS T L 110 q = (0, q) := fun q => by unfold rdS; rfl
    refine ax_aload_n f187_0 rfl ?_
    refine ax_iconst f187_1 ?_
    refine ax_putfO f187_2 o rfl rfl rfl rfl (fun hp1 o1 r1 => ?_)
    have o : Mo hp1 _ _ _ _ _ _ _ _ := o1
    have aT := aT.fr r1 (by omega)
    have F := F.trans (r1.mono fun x e => by omega)
    refine ax_iload_n f187_5 rfl ?_
    refine ax_tswI f187_6 ⟨by omega, by omega⟩ (by omega) (by omega) rfl rfl ?_
    refine ax_aload_n f187_238 rfl ?_
    refine ax_iconst f187_239 ?_
    refine ax_putfO f187_240 o rfl rfl rfl rfl (fun hp2 o2 r2 => ?_)
    have o : Mo hp2 _ _ _ _ _ _ _ _ := o2
    have aT := aT.fr r2 (by omega)
    have F := F.trans (r2.mono fun x e => by omega)
    refine ax_aload_n f187_243 rfl ?_
    refine ax_getf f187_244 o rfl ?_
    refine ax_iconst f187_247 ?_
    refine ax_icmp_eq f187_248 rfl ⟨by omega, by omega⟩ ⟨by omega, by omega⟩ (fun q248 => absurd q248 (by omega)) (fun q248 => ?_)
    refine ax_aload_n f187_251 rfl ?_
    refine ax_getf f187_252 o rfl ?_
    refine ax_iconst f187_255 ?_
    refine ax_icmp_eq f187_256 rfl ⟨by omega, by omega⟩ ⟨by omega, by omega⟩ (fun q256 => absurd q256 (by omega)) (fun q256 => ?_)
    refine ax_iconst f187_259 ?_
    refine ax_goto f187_260 rfl ?_
    refine ax_ireturn f187_264 rfl rfl ?_
    have e : rnp T L 110 sp = (1, ((0 : Int), sp).2) := by unfold rnp; rw [eF, if_neg (fun z => absurd (show (0 : Int) = -1 from z) (by decide)), eS]; exact if_neg (fun z => absurd (show (0 : Int) = -1 from z) (by decide))
    rw [e]
    exact ⟨rI_of rfl, ⟨_, _, o, fun _ => by rw [eF]; exact ⟨rfl, by rw [eS]⟩⟩, F⟩
  · have eF : rdF T L 107 sp = (rd1 T L sp 2) := by unfold rdF; rfl
    have eS : ∀ q, rdS T L 107 q = (0, q) := fun q => by unfold rdS; rfl
    refine ax_aload_n f187_0 rfl ?_
    refine ax_iconst f187_1 ?_
    refine ax_putfO f187_2 o rfl rfl rfl rfl (fun hp1 o1 r1 => ?_)
    have o : Mo hp1 _ _ _ _ _ _ _ _ := o1
    have aT := aT.fr r1 (by omega)
    have F := F.trans (r1.mono fun x e => by omega)
    refine ax_iload_n f187_5 rfl ?_
    refine ax_tswI f187_6 ⟨by omega, by omega⟩ (by omega) (by omega) rfl rfl ?_
    refine ax_aload_n f187_226 rfl ?_
    refine ax_aload_n f187_227 rfl ?_
    refine ax_iconst f187_228 ?_
    refine ax_cvI (rest := [_]) f187_229 o rfl rfl rfl rfl rfl rfl rfl rfl (c_186 o aT hL hT (by omega) (by omega)) ?_
    rintro h82 ⟨o8, f8⟩
    have b1 := rd1_sp (T := T) (L := L) (p := sp) (hi := 2)
    have o : Mo h82 _ _ _ _ _ _ _ _ := o8
    have aT := aT.fr f8 (by omega)
    have F := F.trans (f8.mono fun x e => by omega)
    refine ax_putfO f187_232 o rfl rfl rfl rfl (fun hp3 o3 r3 => ?_)
    have o : Mo hp3 _ _ _ _ _ _ _ _ := o3
    have aT := aT.fr r3 (by omega)
    have F := F.trans (r3.mono fun x e => by omega)
    refine ax_goto f187_235 rfl ?_
    refine ax_aload_n f187_243 rfl ?_
    refine ax_getf f187_244 o rfl ?_
    refine ax_iconst f187_247 ?_
    refine ax_icmp_eq f187_248 rfl ⟨by omega, by omega⟩ ⟨by omega, by omega⟩ (fun q248 => ?_) (fun q248 => ?_)
    · refine ax_iconst f187_263 ?_
      refine ax_ireturn f187_264 rfl rfl ?_
      have e : rnp T L 107 sp = (0, (rd1 T L sp 2).2) := by unfold rnp; rw [eF, if_pos (by omega)]
      rw [e]
      exact ⟨rI_of rfl, ⟨_, _, o, fun z => absurd (show (0 : Int) = 1 from z) (by decide)⟩, F⟩
    · refine ax_aload_n f187_251 rfl ?_
      refine ax_getf f187_252 o rfl ?_
      refine ax_iconst f187_255 ?_
      refine ax_icmp_eq f187_256 rfl ⟨by omega, by omega⟩ ⟨by omega, by omega⟩ (fun q256 => absurd q256 (by omega)) (fun q256 => ?_)
      refine ax_iconst f187_259 ?_
      refine ax_goto f187_260 rfl ?_
      refine ax_ireturn f187_264 rfl rfl ?_
      have e : rnp T L 107 sp = (1, (rd1 T L sp 2).2) := by unfold rnp; rw [eF, if_neg (by omega), eS]; exact if_neg (fun z => absurd (show (0 : Int) = -1 from z) (by decide))
      rw [e]
      exact ⟨rI_of rfl, ⟨_, _, o, fun _ => by rw [eF]; exact ⟨rfl, by rw [eS]⟩⟩, F⟩
theorem c_188 {h : am_H} {z : Int} (hz : inI z) : am_X 0 188 0 (am_ent 188 [.int (iI z)]) [] h (fun r h' => rI r (b2i (z = 97 ∨ z = 99 ∨ z = 119 ∨ z = 102 ∨ z = 108 ∨ z = 115 ∨ z = 110 ∨ z = 107)) ∧ h' = h) := by
  show am_X 0 188 0 [.int (iI z)] [] h _
  obtain ⟨hz1, hz2⟩ := hz
  refine ax_iload_n f188_0 rfl ?_
  refine ax_bipush f188_1 ?_
  refine ax_icmp_eq f188_3 rfl ⟨by omega, by omega⟩ ⟨by omega, by omega⟩ (fun q3 => ?_) (fun q3 => ?_)
  · refine ax_iconst f188_48 ?_
    refine ax_goto f188_49 rfl ?_
    refine ax_ireturn f188_53 rfl rfl ?_
    exact ⟨rI_of (b2i_t (by omega)).symm, rfl⟩
  · refine ax_iload_n f188_6 rfl ?_
    refine ax_bipush f188_7 ?_
    refine ax_icmp_eq f188_9 rfl ⟨by omega, by omega⟩ ⟨by omega, by omega⟩ (fun q9 => ?_) (fun q9 => ?_)
    · refine ax_iconst f188_48 ?_
      refine ax_goto f188_49 rfl ?_
      refine ax_ireturn f188_53 rfl rfl ?_
      exact ⟨rI_of (b2i_t (by omega)).symm, rfl⟩
    · refine ax_iload_n f188_12 rfl ?_
      refine ax_bipush f188_13 ?_
      refine ax_icmp_eq f188_15 rfl ⟨by omega, by omega⟩ ⟨by omega, by omega⟩ (fun q15 => ?_) (fun q15 => ?_)
      · refine ax_iconst f188_48 ?_
        refine ax_goto f188_49 rfl ?_
        refine ax_ireturn f188_53 rfl rfl ?_
        exact ⟨rI_of (b2i_t (by omega)).symm, rfl⟩
      · refine ax_iload_n f188_18 rfl ?_
        refine ax_bipush f188_19 ?_
        refine ax_icmp_eq f188_21 rfl ⟨by omega, by omega⟩ ⟨by omega, by omega⟩ (fun q21 => ?_) (fun q21 => ?_)
        · refine ax_iconst f188_48 ?_
          refine ax_goto f188_49 rfl ?_
          refine ax_ireturn f188_53 rfl rfl ?_
          exact ⟨rI_of (b2i_t (by omega)).symm, rfl⟩
        · refine ax_iload_n f188_24 rfl ?_
          refine ax_bipush f188_25 ?_
          refine ax_icmp_eq f188_27 rfl ⟨by omega, by omega⟩ ⟨by omega, by omega⟩ (fun q27 => ?_) (fun q27 => ?_)
          · refine ax_iconst f188_48 ?_
            refine ax_goto f188_49 rfl ?_
            refine ax_ireturn f188_53 rfl rfl ?_
            exact ⟨rI_of (b2i_t (by omega)).symm, rfl⟩
          · refine ax_iload_n f188_30 rfl ?_
            refine ax_bipush f188_31 ?_
            refine ax_icmp_eq f188_33 rfl ⟨by omega, by omega⟩ ⟨by omega, by omega⟩ (fun q33 => ?_) (fun q33 => ?_)
            · refine ax_iconst f188_48 ?_
              refine ax_goto f188_49 rfl ?_
              refine ax_ireturn f188_53 rfl rfl ?_
              exact ⟨rI_of (b2i_t (by omega)).symm, rfl⟩
            · refine ax_iload_n f188_36 rfl ?_
              refine ax_bipush f188_37 ?_
              refine ax_icmp_eq f188_39 rfl ⟨by omega, by omega⟩ ⟨by omega, by omega⟩ (fun q39 => ?_) (fun q39 => ?_)
              · refine ax_iconst f188_48 ?_
                refine ax_goto f188_49 rfl ?_
                refine ax_ireturn f188_53 rfl rfl ?_
                exact ⟨rI_of (b2i_t (by omega)).symm, rfl⟩
              · refine ax_iload_n f188_42 rfl ?_
                refine ax_bipush f188_43 ?_
                refine ax_icmp_ne f188_45 rfl ⟨by omega, by omega⟩ ⟨by omega, by omega⟩ (fun q45 => ?_) (fun q45 => ?_)
                · refine ax_iconst f188_52 ?_
                  refine ax_ireturn f188_53 rfl rfl ?_
                  exact ⟨rI_of (b2i_f (by omega)).symm, rfl⟩
                · refine ax_iconst f188_48 ?_
                  refine ax_goto f188_49 rfl ?_
                  refine ax_ireturn f188_53 rfl rfl ?_
                  exact ⟨rI_of (b2i_t (by omega)).symm, rfl⟩
theorem c_189 {h : am_H} {c th lk pa L sp fi se : Int} {T : Int → Int} (o : Mo h c th lk pa L sp fi se) (aT : oI h 130 120 T) (hL : 0 ≤ L ∧ L ≤ 120) (hT : ∀ j, 0 ≤ j → j < L → 0 ≤ T j ∧ T j ≤ 255) (hp : 0 ≤ sp ∧ sp < L) : am_X 4 189 0 (am_ent 189 [.ref 120]) [] h (fun r h' => rI r (rdc T L sp).1 ∧ (∃ fi' se', Mo h' c th lk pa L (rdc T L sp).2 fi' se' ∧ ((rdc T L sp).1 = 1 → fi' = fiN T L sp ∧ se' = seN T L sp)) ∧ fr (fun x => x = 120) h h') := by
  show am_X 4 189 0 [.ref 120, am_u] [] h _
  have F : fr (fun x => x = 120) h h := fr_rf
  have es : sg T L sp = T sp := if_pos ⟨hp.1, hp.2⟩
  have ht := hT sp hp.1 hp.2
  by_cases c0 : T sp = 97 ∨ T sp = 99 ∨ T sp = 119 ∨ T sp = 102 ∨ T sp = 108 ∨ T sp = 115 ∨ T sp = 110 ∨ T sp = 107
  · refine ax_aload_n f189_0 rfl ?_
    refine ax_getf f189_1 o rfl ?_
    refine ax_aload_n f189_4 rfl ?_
    refine ax_getf f189_5 o rfl ?_
    refine ax_ialdO f189_8 (by decide) aT (by omega) (by omega) rfl ?_
    refine ax_istore_n (ls' := [_, _]) f189_9 (Nat.le_of_ble_eq_true rfl) rfl ?_
    refine ax_iload_n f189_10 rfl ?_
    refine ax_csI (rest := []) f189_11 (Or.inl rfl) rfl rfl rfl rfl rfl rfl (c_188 ⟨by omega, by omega⟩) ?_
    intro _ e_
    obtain rfl := e_.symm
    clear e_
    refine ax_nmI (b2i_t c0) ?_
    refine ax_if_ne f189_14 rfl ⟨by omega, by omega⟩ (fun q14 => ?_) (fun q14 => absurd q14 (by omega))
    refine ax_aload_n f189_19 rfl ?_
    refine ax_dup f189_20 rfl ?_
    refine ax_getf f189_21 o rfl ?_
    refine ax_iconst f189_24 ?_
    refine ax_iadd f189_25 ?_
    refine ax_putfO f189_26 o rfl rfl rfl rfl (fun hp1 o1 r1 => ?_)
    have o : Mo hp1 _ _ _ _ _ _ _ _ := o1
    have aT := aT.fr r1 (by omega)
    have F := F.trans (r1.mono fun x e => by omega)
    refine ax_aload_n f189_29 rfl ?_
    refine ax_iload_n f189_30 rfl ?_
    refine ax_cvI (rest := []) f189_31 o rfl rfl rfl rfl rfl rfl rfl rfl (c_187 o aT hL hT (by omega) c0) ?_
    rintro h8 ⟨⟨fi8, se8, o8, g8⟩, f8⟩
    refine ax_ireturn f189_34 rfl (nb1 (by have := (rdc_sp (T := T) (L := L) (p := sp)).1; rw [rdc_rnp (by omega), es] at this; exact this)) ?_
    have e := rdc_rnp (T := T) (L := L) (p := sp) (by omega)
    rw [es] at e
    rw [e]
    refine ⟨rI_of rfl, ⟨_, _, o8, fun z => ?_⟩, F.trans f8⟩
    unfold fiN seN
    rw [es]
    exact g8 z
  · refine ax_aload_n f189_0 rfl ?_
    refine ax_getf f189_1 o rfl ?_
    refine ax_aload_n f189_4 rfl ?_
    refine ax_getf f189_5 o rfl ?_
    refine ax_ialdO f189_8 (by decide) aT (by omega) (by omega) rfl ?_
    refine ax_istore_n (ls' := [_, _]) f189_9 (Nat.le_of_ble_eq_true rfl) rfl ?_
    refine ax_iload_n f189_10 rfl ?_
    refine ax_csI (rest := []) f189_11 (Or.inl rfl) rfl rfl rfl rfl rfl rfl (c_188 ⟨by omega, by omega⟩) ?_
    intro _ e_
    obtain rfl := e_.symm
    clear e_
    refine ax_nmI (b2i_f c0) ?_
    refine ax_if_ne f189_14 rfl ⟨by omega, by omega⟩ (fun q14 => absurd q14 (by omega)) (fun q14 => ?_)
    refine ax_iconst f189_17 ?_
    refine ax_ireturn f189_18 rfl rfl ?_
    rw [rdc_0 (by omega)]
    exact ⟨rI_of rfl, ⟨_, _, o, fun z => absurd (show (0 : Int) = 1 from z) (by decide)⟩, F⟩
theorem lp_190 {d : Nat} {T : Int → Int} {c th lk pa L : Int} (hL : 0 ≤ L ∧ L ≤ 120) (hT : ∀ j, 0 ≤ j → j < L → 0 ≤ T j ∧ T j ≤ 255) : ∀ (n : Nat) {h : am_H} {sp fi se : Int} (o : Mo h c th lk pa L sp fi se) (aT : oI h 130 120 T), 121 ≤ sp + n → 1 ≤ sp ∧ sp ≤ 300 → am_X (d + 5) 190 30 [.ref 120] [] h (fun r h' => rI r (epl T L n sp) ∧ (∃ sp' fi' se', Mo h' c th lk pa L sp' fi' se') ∧ fr (fun x => x = 120) h h')
  | 0, h, sp, fi, se, o, aT, h1, h2 => by
    have hsp : 121 ≤ sp := by omega
    refine ax_aload_n f190_30 rfl ?_
    refine ax_getf f190_31 o rfl ?_
    refine ax_aload_n f190_34 rfl ?_
    refine ax_getf f190_35 o rfl ?_
    refine ax_icmp_ge f190_38 rfl ⟨by omega, by omega⟩ ⟨by omega, by omega⟩ (fun q38 => ?_) (fun q38 => absurd q38 (by omega))
    refine ax_iconst f190_53 ?_
    refine ax_ireturn f190_54 rfl rfl ?_
    exact ⟨rI_of rfl, ⟨_, _, _, o⟩, fr_rf⟩
  | n + 1, h, sp, fi, se, o, aT, h1, h2 => by
    refine ax_aload_n f190_30 rfl ?_
    refine ax_getf f190_31 o rfl ?_
    refine ax_aload_n f190_34 rfl ?_
    refine ax_getf f190_35 o rfl ?_
    refine ax_icmp_ge f190_38 rfl ⟨by omega, by omega⟩ ⟨by omega, by omega⟩ (fun q38 => ?_) (fun q38 => ?_)
    · refine ax_iconst f190_53 ?_
      refine ax_ireturn f190_54 rfl rfl ?_
      exact ⟨rI_of (by unfold epl; rw [if_neg (by omega)]), ⟨_, _, _, o⟩, fr_rf⟩
    · refine ax_aload_n f190_41 rfl ?_
      refine ax_cvI (rest := []) f190_42 o rfl rfl rfl rfl rfl rfl rfl rfl (c_189 o aT hL hT (by omega)) ?_
      rintro h8 ⟨⟨fi8, se8, o8, g8⟩, f8⟩
      have a := rdc_sp (T := T) (L := L) (p := sp)
      have aT := aT.fr f8 (by omega)
      refine ax_if_ne f190_45 rfl ⟨by omega, by omega⟩ (fun q45 => ?_) (fun q45 => ?_)
      · refine am_X_mono (lp_190 hL hT n o8 aT (by omega) ⟨by omega, by omega⟩) (Nat.le_refl _) ?_
        rintro r h' ⟨g1, g2, g3⟩
        refine ⟨?_, g2, f8.trans g3⟩
        unfold epl
        rw [if_pos (by omega), if_neg (by omega)]
        exact g1
      · refine ax_aload_n f190_48 rfl ?_
        refine ax_getf f190_49 o8 rfl ?_
        refine ax_ireturn f190_52 rfl rfl ?_
        exact ⟨rI_of (by unfold epl; rw [if_pos (by omega), if_pos (by omega)]), ⟨_, _, _, o8⟩, f8⟩
theorem c_190 {h : am_H} {c th lk pa L sp fi se : Int} {T : Int → Int} (o : Mo h c th lk pa L sp fi se) (aT : oI h 130 120 T) (hL : 0 ≤ L ∧ L ≤ 120) (hT : ∀ j, 0 ≤ j → j < L → 0 ≤ T j ∧ T j ≤ 255)  : am_X 5 190 0 (am_ent 190 [.ref 120]) [] h (fun r h' => rI r (errP T L) ∧ (∃ sp' fi' se', Mo h' c th lk pa L sp' fi' se') ∧ fr (fun x => x = 120) h h') := by
  show am_X 5 190 0 [.ref 120] [] h _
  have F : fr (fun x => x = 120) h h := fr_rf
  refine ax_aload_n f190_0 rfl ?_
  refine ax_iconst f190_1 ?_
  refine ax_putfO f190_2 o rfl rfl rfl rfl (fun hp1 o1 r1 => ?_)
  have o : Mo hp1 _ _ _ _ _ _ _ _ := o1
  have aT := aT.fr r1 (by omega)
  have F := F.trans (r1.mono fun x e => by omega)
  refine ax_aload_n f190_5 rfl ?_
  refine ax_getf f190_6 o rfl ?_
  refine ax_if_eq f190_9 rfl ⟨by omega, by omega⟩ (fun q9 => ?_) (fun q9 => ?_)
  · refine ax_iconst f190_23 ?_
    refine ax_ireturn f190_24 rfl rfl ?_
    have es : ¬ sg T L 0 = 77 := by
      unfold sg
      split <;> omega
    refine ⟨rI_of ?_, ⟨_, _, _, o⟩, F⟩
    unfold errP
    rw [if_neg es]
  · refine ax_aload_n f190_12 rfl ?_
    refine ax_getf f190_13 o rfl ?_
    refine ax_iconst f190_16 ?_
    refine ax_ialdO f190_17 (by decide) aT (by omega) (by omega) rfl ?_
    refine ax_bipush f190_18 ?_
    have ht := hT 0 (by omega) (by omega)
    refine ax_icmp_eq f190_20 rfl ⟨by omega, by omega⟩ ⟨by omega, by omega⟩ (fun q20 => ?_) (fun q20 => ?_)
    · refine ax_aload_n f190_25 rfl ?_
      refine ax_iconst f190_26 ?_
      refine ax_putfO f190_27 o rfl rfl rfl rfl (fun hp2 o2 r2 => ?_)
      have o : Mo hp2 _ _ _ _ _ _ _ _ := o2
      have aT := aT.fr r2 (by omega)
      have F := F.trans (r2.mono fun x e => by omega)
      refine am_X_mono (lp_190 (d := 0) hL hT 120 o aT (by omega) ⟨by omega, by omega⟩) (Nat.le_refl _) ?_
      rintro r h' ⟨g1, g2, g3⟩
      have es : sg T L 0 = 77 := by
        unfold sg
        rw [if_pos ⟨by omega, by omega⟩]
        exact q20
      refine ⟨?_, g2, F.trans g3⟩
      unfold errP
      rw [if_pos es]
      exact g1
    · refine ax_iconst f190_23 ?_
      refine ax_ireturn f190_24 rfl rfl ?_
      have es : ¬ sg T L 0 = 77 := by
        unfold sg
        split <;> omega
      refine ⟨rI_of ?_, ⟨_, _, _, o⟩, F⟩
      unfold errP
      rw [if_neg es]
end MTX
