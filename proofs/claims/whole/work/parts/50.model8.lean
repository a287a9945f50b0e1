/-! ===== the reference: turns, scripts ===== -/
section MTU
theorem c_226 {h : am_H} {R : Int → Int} {c th lk pa L sp fi se : Int} (o : Mo h c th lk pa L sp fi se) (a1 : oI h 121 270 R) (i : inv R) (hW : Wk h) {g : Int} (hg : 0 ≤ g ∧ g < 2147483648) : ∃ v : Int, (v = 0 ∨ v = 1) ∧ am_X 9 226 0 (am_ent 226 [.ref 120, .int (iI g)]) [] h (fun r h' => rI r v ∧ (∃ lk' pa', Mo h' c th lk' pa' L sp fi se) ∧ oI h' 121 270 (trn R g) ∧ Wk h' ∧ fr (fun x => x = 120 ∨ x = 121 ∨ x = 126 ∨ x = 127 ∨ x = 128 ∨ x = 129) h h') := by
  have F : fr (fun x => x = 120 ∨ x = 121 ∨ x = 126 ∨ x = 127 ∨ x = 128 ∨ x = 129) h h := fr_rf
  by_cases hK : g % 8 = 0
  · by_cases hq : g / 8 / 48 % 3 = 0
    · refine ⟨b2i (0 ≤ g / 8 % 48 ∧ g / 8 % 48 < 48), b2i_in, ?_⟩
      have eT : trn R g = aAw R (g / 8 % 48) 0 := by unfold trn; rw [if_pos (by omega), if_pos hq]
      show am_X 9 226 0 [.ref 120, .int (iI g), am_u] [] h _
      refine ax_iload_n f226_0 rfl ?_
      refine ax_bipush f226_1 ?_
      refine ax_idiv f226_3 (by omega) (by omega) (by omega) (by omega) ?_
      refine ax_istore_n (ls' := [_, _, _]) f226_4 (Nat.le_of_ble_eq_true rfl) rfl ?_
      refine ax_iload_n f226_5 rfl ?_
      refine ax_bipush f226_6 ?_
      refine ax_irem f226_8 (by omega) (by omega) (by omega) (by omega) ?_
      refine ax_nmI hK ?_
      refine ax_tswI f226_9 ⟨by omega, by omega⟩ (by omega) (by omega) rfl rfl ?_
      refine ax_aload_n f226_48 rfl ?_
      refine ax_iload_n f226_49 rfl ?_
      refine ax_bipush f226_50 ?_
      refine ax_irem f226_52 (by omega) (by omega) (by omega) (by omega) ?_
      refine ax_iload_n f226_53 rfl ?_
      refine ax_bipush f226_54 ?_
      refine ax_idiv f226_56 (by omega) (by omega) (by omega) (by omega) ?_
      refine ax_iconst f226_57 ?_
      refine ax_irem f226_58 (by omega) (by omega) (by omega) (by omega) ?_
      refine ax_if_eq f226_59 rfl ⟨by omega, by omega⟩ (fun q59 => ?_) (fun q59 => absurd q59 (by omega))
      refine ax_iconst f226_66 ?_
      refine ax_cvI (rest := []) f226_67 o rfl rfl rfl rfl rfl rfl rfl rfl (c_159 o a1 ⟨by omega, by omega⟩ (by omega)) ?_
      rintro h8 ⟨a18, f8⟩
      have hW := hW.mv f8 (by omega) (by omega) (by omega) (by omega)
      have o : Mo h8 _ _ _ _ _ _ _ _ := f8.at (q := 120) (by omega) o
      have a1 := a18
      have F := F.trans (f8.mono fun x e => by omega)
      refine ax_ireturn f226_70 rfl (nb1 b2i_in) ?_
      rw [eT]
      exact ⟨rI_of rfl, ⟨_, _, o⟩, a1, hW, F⟩
    · refine ⟨b2i (0 ≤ g / 8 % 48 ∧ g / 8 % 48 < 48), b2i_in, ?_⟩
      have eT : trn R g = aAw R (g / 8 % 48) 1 := by unfold trn; rw [if_pos (by omega), if_neg hq]
      show am_X 9 226 0 [.ref 120, .int (iI g), am_u] [] h _
      refine ax_iload_n f226_0 rfl ?_
      refine ax_bipush f226_1 ?_
      refine ax_idiv f226_3 (by omega) (by omega) (by omega) (by omega) ?_
      refine ax_istore_n (ls' := [_, _, _]) f226_4 (Nat.le_of_ble_eq_true rfl) rfl ?_
      refine ax_iload_n f226_5 rfl ?_
      refine ax_bipush f226_6 ?_
      refine ax_irem f226_8 (by omega) (by omega) (by omega) (by omega) ?_
      refine ax_nmI hK ?_
      refine ax_tswI f226_9 ⟨by omega, by omega⟩ (by omega) (by omega) rfl rfl ?_
      refine ax_aload_n f226_48 rfl ?_
      refine ax_iload_n f226_49 rfl ?_
      refine ax_bipush f226_50 ?_
      refine ax_irem f226_52 (by omega) (by omega) (by omega) (by omega) ?_
      refine ax_iload_n f226_53 rfl ?_
      refine ax_bipush f226_54 ?_
      refine ax_idiv f226_56 (by omega) (by omega) (by omega) (by omega) ?_
      refine ax_iconst f226_57 ?_
      refine ax_irem f226_58 (by omega) (by omega) (by omega) (by omega) ?_
      refine ax_if_eq f226_59 rfl ⟨by omega, by omega⟩ (fun q59 => absurd q59 (by omega)) (fun q59 => ?_)
      refine ax_iconst f226_62 ?_
      refine ax_goto f226_63 rfl ?_
      refine ax_cvI (rest := []) f226_67 o rfl rfl rfl rfl rfl rfl rfl rfl (c_159 o a1 ⟨by omega, by omega⟩ (by omega)) ?_
      rintro h8 ⟨a18, f8⟩
      have hW := hW.mv f8 (by omega) (by omega) (by omega) (by omega)
      have o : Mo h8 _ _ _ _ _ _ _ _ := f8.at (q := 120) (by omega) o
      have a1 := a18
      have F := F.trans (f8.mono fun x e => by omega)
      refine ax_ireturn f226_70 rfl (nb1 b2i_in) ?_
      rw [eT]
      exact ⟨rI_of rfl, ⟨_, _, o⟩, a1, hW, F⟩
  have hK0 := hK
  clear hK
  by_cases hK : g % 8 = 1
  · by_cases hq : g / 8 / 48 % 3 = 0
    · refine ⟨b2i (0 ≤ g / 8 % 48 ∧ g / 8 % 48 < 48), b2i_in, ?_⟩
      have eT : trn R g = aAw R (g / 8 % 48) 0 := by unfold trn; rw [if_pos (by omega), if_pos hq]
      show am_X 9 226 0 [.ref 120, .int (iI g), am_u] [] h _
      refine ax_iload_n f226_0 rfl ?_
      refine ax_bipush f226_1 ?_
      refine ax_idiv f226_3 (by omega) (by omega) (by omega) (by omega) ?_
      refine ax_istore_n (ls' := [_, _, _]) f226_4 (Nat.le_of_ble_eq_true rfl) rfl ?_
      refine ax_iload_n f226_5 rfl ?_
      refine ax_bipush f226_6 ?_
      refine ax_irem f226_8 (by omega) (by omega) (by omega) (by omega) ?_
      refine ax_nmI hK ?_
      refine ax_tswI f226_9 ⟨by omega, by omega⟩ (by omega) (by omega) rfl rfl ?_
      refine ax_aload_n f226_48 rfl ?_
      refine ax_iload_n f226_49 rfl ?_
      refine ax_bipush f226_50 ?_
      refine ax_irem f226_52 (by omega) (by omega) (by omega) (by omega) ?_
      refine ax_iload_n f226_53 rfl ?_
      refine ax_bipush f226_54 ?_
      refine ax_idiv f226_56 (by omega) (by omega) (by omega) (by omega) ?_
      refine ax_iconst f226_57 ?_
      refine ax_irem f226_58 (by omega) (by omega) (by omega) (by omega) ?_
      refine ax_if_eq f226_59 rfl ⟨by omega, by omega⟩ (fun q59 => ?_) (fun q59 => absurd q59 (by omega))
      refine ax_iconst f226_66 ?_
      refine ax_cvI (rest := []) f226_67 o rfl rfl rfl rfl rfl rfl rfl rfl (c_159 o a1 ⟨by omega, by omega⟩ (by omega)) ?_
      rintro h8 ⟨a18, f8⟩
      have hW := hW.mv f8 (by omega) (by omega) (by omega) (by omega)
      have o : Mo h8 _ _ _ _ _ _ _ _ := f8.at (q := 120) (by omega) o
      have a1 := a18
      have F := F.trans (f8.mono fun x e => by omega)
      refine ax_ireturn f226_70 rfl (nb1 b2i_in) ?_
      rw [eT]
      exact ⟨rI_of rfl, ⟨_, _, o⟩, a1, hW, F⟩
    · refine ⟨b2i (0 ≤ g / 8 % 48 ∧ g / 8 % 48 < 48), b2i_in, ?_⟩
      have eT : trn R g = aAw R (g / 8 % 48) 1 := by unfold trn; rw [if_pos (by omega), if_neg hq]
      show am_X 9 226 0 [.ref 120, .int (iI g), am_u] [] h _
      refine ax_iload_n f226_0 rfl ?_
      refine ax_bipush f226_1 ?_
      refine ax_idiv f226_3 (by omega) (by omega) (by omega) (by omega) ?_
      refine ax_istore_n (ls' := [_, _, _]) f226_4 (Nat.le_of_ble_eq_true rfl) rfl ?_
      refine ax_iload_n f226_5 rfl ?_
      refine ax_bipush f226_6 ?_
      refine ax_irem f226_8 (by omega) (by omega) (by omega) (by omega) ?_
      refine ax_nmI hK ?_
      refine ax_tswI f226_9 ⟨by omega, by omega⟩ (by omega) (by omega) rfl rfl ?_
      refine ax_aload_n f226_48 rfl ?_
      refine ax_iload_n f226_49 rfl ?_
      refine ax_bipush f226_50 ?_
      refine ax_irem f226_52 (by omega) (by omega) (by omega) (by omega) ?_
      refine ax_iload_n f226_53 rfl ?_
      refine ax_bipush f226_54 ?_
      refine ax_idiv f226_56 (by omega) (by omega) (by omega) (by omega) ?_
      refine ax_iconst f226_57 ?_
      refine ax_irem f226_58 (by omega) (by omega) (by omega) (by omega) ?_
      refine ax_if_eq f226_59 rfl ⟨by omega, by omega⟩ (fun q59 => absurd q59 (by omega)) (fun q59 => ?_)
      refine ax_iconst f226_62 ?_
      refine ax_goto f226_63 rfl ?_
      refine ax_cvI (rest := []) f226_67 o rfl rfl rfl rfl rfl rfl rfl rfl (c_159 o a1 ⟨by omega, by omega⟩ (by omega)) ?_
      rintro h8 ⟨a18, f8⟩
      have hW := hW.mv f8 (by omega) (by omega) (by omega) (by omega)
      have o : Mo h8 _ _ _ _ _ _ _ _ := f8.at (q := 120) (by omega) o
      have a1 := a18
      have F := F.trans (f8.mono fun x e => by omega)
      refine ax_ireturn f226_70 rfl (nb1 b2i_in) ?_
      rw [eT]
      exact ⟨rI_of rfl, ⟨_, _, o⟩, a1, hW, F⟩
  have hK1 := hK
  clear hK
  by_cases hK : g % 8 = 2
  · refine ⟨b2i ((0 ≤ g / 8 % 48 ∧ g / 8 % 48 < 48) ∧ (1 ≤ 1 + g / 8 / 48 % 99 ∧ 1 + g / 8 / 48 % 99 ≤ 99)), b2i_in, ?_⟩
    have eT : trn R g = aWe R (g / 8 % 48) (1 + g / 8 / 48 % 99) := by unfold trn; rw [if_neg (by omega), if_pos hK]
    show am_X 9 226 0 [.ref 120, .int (iI g), am_u] [] h _
    refine ax_iload_n f226_0 rfl ?_
    refine ax_bipush f226_1 ?_
    refine ax_idiv f226_3 (by omega) (by omega) (by omega) (by omega) ?_
    refine ax_istore_n (ls' := [_, _, _]) f226_4 (Nat.le_of_ble_eq_true rfl) rfl ?_
    refine ax_iload_n f226_5 rfl ?_
    refine ax_bipush f226_6 ?_
    refine ax_irem f226_8 (by omega) (by omega) (by omega) (by omega) ?_
    refine ax_nmI hK ?_
    refine ax_tswI f226_9 ⟨by omega, by omega⟩ (by omega) (by omega) rfl rfl ?_
    refine ax_aload_n f226_71 rfl ?_
    refine ax_iload_n f226_72 rfl ?_
    refine ax_bipush f226_73 ?_
    refine ax_irem f226_75 (by omega) (by omega) (by omega) (by omega) ?_
    refine ax_iconst f226_76 ?_
    refine ax_iload_n f226_77 rfl ?_
    refine ax_bipush f226_78 ?_
    refine ax_idiv f226_80 (by omega) (by omega) (by omega) (by omega) ?_
    refine ax_bipush f226_81 ?_
    refine ax_irem f226_83 (by omega) (by omega) (by omega) (by omega) ?_
    refine ax_iadd f226_84 ?_
    refine ax_cvI (rest := []) f226_85 o rfl rfl rfl rfl rfl rfl rfl rfl (c_158 o a1 ⟨by omega, by omega⟩ ⟨by omega, by omega⟩) ?_
    rintro h8 ⟨a18, f8⟩
    have hW := hW.mv f8 (by omega) (by omega) (by omega) (by omega)
    have o : Mo h8 _ _ _ _ _ _ _ _ := f8.at (q := 120) (by omega) o
    have a1 := a18
    have F := F.trans (f8.mono fun x e => by omega)
    refine ax_ireturn f226_88 rfl (nb1 b2i_in) ?_
    rw [eT]
    exact ⟨rI_of rfl, ⟨_, _, o⟩, a1, hW, F⟩
  have hK2 := hK
  clear hK
  by_cases hK : g % 8 = 3
  · by_cases hq : g / 8 / 64 % 2 = 0
    · refine ⟨b2i ((1 ≤ 1 + g / 8 % 47 ∧ 1 + g / 8 % 47 < 48) ∧ ((1 : Int) = 0 ∨ R (144 + (1 + g / 8 % 47)) = 1 ∨ blk R ≤ 11)), b2i_in, ?_⟩
      have eT : trn R g = aFe R (1 + g / 8 % 47) 1 := by unfold trn; rw [if_neg (by omega), if_neg (by omega), if_pos hK, if_pos hq]
      show am_X 9 226 0 [.ref 120, .int (iI g), am_u] [] h _
      refine ax_iload_n f226_0 rfl ?_
      refine ax_bipush f226_1 ?_
      refine ax_idiv f226_3 (by omega) (by omega) (by omega) (by omega) ?_
      refine ax_istore_n (ls' := [_, _, _]) f226_4 (Nat.le_of_ble_eq_true rfl) rfl ?_
      refine ax_iload_n f226_5 rfl ?_
      refine ax_bipush f226_6 ?_
      refine ax_irem f226_8 (by omega) (by omega) (by omega) (by omega) ?_
      refine ax_nmI hK ?_
      refine ax_tswI f226_9 ⟨by omega, by omega⟩ (by omega) (by omega) rfl rfl ?_
      refine ax_aload_n f226_89 rfl ?_
      refine ax_iconst f226_90 ?_
      refine ax_iload_n f226_91 rfl ?_
      refine ax_bipush f226_92 ?_
      refine ax_irem f226_94 (by omega) (by omega) (by omega) (by omega) ?_
      refine ax_iadd f226_95 ?_
      refine ax_iload_n f226_96 rfl ?_
      refine ax_bipush f226_97 ?_
      refine ax_idiv f226_99 (by omega) (by omega) (by omega) (by omega) ?_
      refine ax_iconst f226_100 ?_
      refine ax_irem f226_101 (by omega) (by omega) (by omega) (by omega) ?_
      refine ax_if_ne f226_102 rfl ⟨by omega, by omega⟩ (fun q102 => absurd q102 (by omega)) (fun q102 => ?_)
      refine ax_iconst f226_105 ?_
      refine ax_goto f226_106 rfl ?_
      refine ax_cvI (rest := []) f226_110 o rfl rfl rfl rfl rfl rfl rfl rfl (c_162 o a1 i.ff i.b12 ⟨by omega, by omega⟩ (by omega)) ?_
      rintro h8 ⟨a18, f8⟩
      have hW := hW.mv f8 (by omega) (by omega) (by omega) (by omega)
      have o : Mo h8 _ _ _ _ _ _ _ _ := f8.at (q := 120) (by omega) o
      have a1 := a18
      have F := F.trans (f8.mono fun x e => by omega)
      refine ax_ireturn f226_113 rfl (nb1 b2i_in) ?_
      rw [eT]
      exact ⟨rI_of rfl, ⟨_, _, o⟩, a1, hW, F⟩
    · refine ⟨b2i ((1 ≤ 1 + g / 8 % 47 ∧ 1 + g / 8 % 47 < 48) ∧ ((0 : Int) = 0 ∨ R (144 + (1 + g / 8 % 47)) = 1 ∨ blk R ≤ 11)), b2i_in, ?_⟩
      have eT : trn R g = aFe R (1 + g / 8 % 47) 0 := by unfold trn; rw [if_neg (by omega), if_neg (by omega), if_pos hK, if_neg hq]
      show am_X 9 226 0 [.ref 120, .int (iI g), am_u] [] h _
      refine ax_iload_n f226_0 rfl ?_
      refine ax_bipush f226_1 ?_
      refine ax_idiv f226_3 (by omega) (by omega) (by omega) (by omega) ?_
      refine ax_istore_n (ls' := [_, _, _]) f226_4 (Nat.le_of_ble_eq_true rfl) rfl ?_
      refine ax_iload_n f226_5 rfl ?_
      refine ax_bipush f226_6 ?_
      refine ax_irem f226_8 (by omega) (by omega) (by omega) (by omega) ?_
      refine ax_nmI hK ?_
      refine ax_tswI f226_9 ⟨by omega, by omega⟩ (by omega) (by omega) rfl rfl ?_
      refine ax_aload_n f226_89 rfl ?_
      refine ax_iconst f226_90 ?_
      refine ax_iload_n f226_91 rfl ?_
      refine ax_bipush f226_92 ?_
      refine ax_irem f226_94 (by omega) (by omega) (by omega) (by omega) ?_
      refine ax_iadd f226_95 ?_
      refine ax_iload_n f226_96 rfl ?_
      refine ax_bipush f226_97 ?_
      refine ax_idiv f226_99 (by omega) (by omega) (by omega) (by omega) ?_
      refine ax_iconst f226_100 ?_
      refine ax_irem f226_101 (by omega) (by omega) (by omega) (by omega) ?_
      refine ax_if_ne f226_102 rfl ⟨by omega, by omega⟩ (fun q102 => ?_) (fun q102 => absurd q102 (by omega))
      refine ax_iconst f226_109 ?_
      refine ax_cvI (rest := []) f226_110 o rfl rfl rfl rfl rfl rfl rfl rfl (c_162 o a1 i.ff i.b12 ⟨by omega, by omega⟩ (by omega)) ?_
      rintro h8 ⟨a18, f8⟩
      have hW := hW.mv f8 (by omega) (by omega) (by omega) (by omega)
      have o : Mo h8 _ _ _ _ _ _ _ _ := f8.at (q := 120) (by omega) o
      have a1 := a18
      have F := F.trans (f8.mono fun x e => by omega)
      refine ax_ireturn f226_113 rfl (nb1 b2i_in) ?_
      rw [eT]
      exact ⟨rI_of rfl, ⟨_, _, o⟩, a1, hW, F⟩
  have hK3 := hK
  clear hK
  by_cases hK : g % 8 = 4
  · refine ⟨1, Or.inr rfl, ?_⟩
    have eT : trn R g = tel R := by unfold trn; rw [if_neg (by omega), if_neg (by omega), if_neg (by omega), if_pos hK]
    show am_X 9 226 0 [.ref 120, .int (iI g), am_u] [] h _
    refine ax_iload_n f226_0 rfl ?_
    refine ax_bipush f226_1 ?_
    refine ax_idiv f226_3 (by omega) (by omega) (by omega) (by omega) ?_
    refine ax_istore_n (ls' := [_, _, _]) f226_4 (Nat.le_of_ble_eq_true rfl) rfl ?_
    refine ax_iload_n f226_5 rfl ?_
    refine ax_bipush f226_6 ?_
    refine ax_irem f226_8 (by omega) (by omega) (by omega) (by omega) ?_
    refine ax_nmI hK ?_
    refine ax_tswI f226_9 ⟨by omega, by omega⟩ (by omega) (by omega) rfl rfl ?_
    refine ax_aload_n f226_114 rfl ?_
    refine ax_cvV (rest := []) f226_115 o rfl rfl rfl rfl rfl rfl rfl rfl (c_164 o a1 i.ff i.1.2.1 i.b12) ?_
    rintro h8 ⟨a18, f8⟩
    have hW := hW.mv f8 (by omega) (by omega) (by omega) (by omega)
    have o : Mo h8 _ _ _ _ _ _ _ _ := f8.at (q := 120) (by omega) o
    have a1 := a18
    have F := F.trans (f8.mono fun x e => by omega)
    refine ax_iconst f226_118 ?_
    refine ax_ireturn f226_119 rfl rfl ?_
    rw [eT]
    exact ⟨rI_of rfl, ⟨_, _, o⟩, a1, hW, F⟩
  have hK4 := hK
  clear hK
  by_cases hK : g % 8 = 5
  · by_cases hq : g / 8 / 128 % 2 = 0
    · refine ⟨b2i ((0 ≤ g / 8 % 12 ∧ g / 8 % 12 < blk R) ∧ (-2 ≤ g / 8 / 16 % 5 - 2 ∧ g / 8 / 16 % 5 - 2 ≤ 2)), b2i_in, ?_⟩
      have eT : trn R g = aLi R (g / 8 % 12) (g / 8 / 16 % 5 - 2) := by unfold trn; rw [if_neg (by omega), if_neg (by omega), if_neg (by omega), if_neg (by omega), if_pos hK, if_pos hq]
      show am_X 9 226 0 [.ref 120, .int (iI g), am_u] [] h _
      refine ax_iload_n f226_0 rfl ?_
      refine ax_bipush f226_1 ?_
      refine ax_idiv f226_3 (by omega) (by omega) (by omega) (by omega) ?_
      refine ax_istore_n (ls' := [_, _, _]) f226_4 (Nat.le_of_ble_eq_true rfl) rfl ?_
      refine ax_iload_n f226_5 rfl ?_
      refine ax_bipush f226_6 ?_
      refine ax_irem f226_8 (by omega) (by omega) (by omega) (by omega) ?_
      refine ax_nmI hK ?_
      refine ax_tswI f226_9 ⟨by omega, by omega⟩ (by omega) (by omega) rfl rfl ?_
      refine ax_iload_n f226_120 rfl ?_
      refine ax_sipush f226_121 ?_
      refine ax_idiv f226_124 (by omega) (by omega) (by omega) (by omega) ?_
      refine ax_iconst f226_125 ?_
      refine ax_irem f226_126 (by omega) (by omega) (by omega) (by omega) ?_
      refine ax_if_ne f226_127 rfl ⟨by omega, by omega⟩ (fun q127 => absurd q127 (by omega)) (fun q127 => ?_)
      refine ax_aload_n f226_130 rfl ?_
      refine ax_iload_n f226_131 rfl ?_
      refine ax_bipush f226_132 ?_
      refine ax_irem f226_134 (by omega) (by omega) (by omega) (by omega) ?_
      refine ax_iload_n f226_135 rfl ?_
      refine ax_bipush f226_136 ?_
      refine ax_idiv f226_138 (by omega) (by omega) (by omega) (by omega) ?_
      refine ax_iconst f226_139 ?_
      refine ax_irem f226_140 (by omega) (by omega) (by omega) (by omega) ?_
      refine ax_iconst f226_141 ?_
      refine ax_isub f226_142 ?_
      refine ax_cvI (rest := []) f226_143 o rfl rfl rfl rfl rfl rfl rfl rfl (c_163 o a1 i.ff i.b12 ⟨by omega, by omega⟩ ⟨by omega, by omega⟩) ?_
      rintro h8 ⟨a18, f8⟩
      have hW := hW.mv f8 (by omega) (by omega) (by omega) (by omega)
      have o : Mo h8 _ _ _ _ _ _ _ _ := f8.at (q := 120) (by omega) o
      have a1 := a18
      have F := F.trans (f8.mono fun x e => by omega)
      refine ax_goto f226_146 rfl ?_
      refine ax_ireturn f226_156 rfl (nb1 b2i_in) ?_
      rw [eT]
      exact ⟨rI_of rfl, ⟨_, _, o⟩, a1, hW, F⟩
    · refine ⟨b2i (0 ≤ g / 8 % 2 ∧ g / 8 % 2 ≤ 1), b2i_in, ?_⟩
      have eT : trn R g = uZ R 269 (g / 8 % 2) := by unfold trn; rw [if_neg (by omega), if_neg (by omega), if_neg (by omega), if_neg (by omega), if_pos hK, if_neg hq]
      show am_X 9 226 0 [.ref 120, .int (iI g), am_u] [] h _
      refine ax_iload_n f226_0 rfl ?_
      refine ax_bipush f226_1 ?_
      refine ax_idiv f226_3 (by omega) (by omega) (by omega) (by omega) ?_
      refine ax_istore_n (ls' := [_, _, _]) f226_4 (Nat.le_of_ble_eq_true rfl) rfl ?_
      refine ax_iload_n f226_5 rfl ?_
      refine ax_bipush f226_6 ?_
      refine ax_irem f226_8 (by omega) (by omega) (by omega) (by omega) ?_
      refine ax_nmI hK ?_
      refine ax_tswI f226_9 ⟨by omega, by omega⟩ (by omega) (by omega) rfl rfl ?_
      refine ax_iload_n f226_120 rfl ?_
      refine ax_sipush f226_121 ?_
      refine ax_idiv f226_124 (by omega) (by omega) (by omega) (by omega) ?_
      refine ax_iconst f226_125 ?_
      refine ax_irem f226_126 (by omega) (by omega) (by omega) (by omega) ?_
      refine ax_if_ne f226_127 rfl ⟨by omega, by omega⟩ (fun q127 => ?_) (fun q127 => absurd q127 (by omega))
      refine ax_aload_n f226_149 rfl ?_
      refine ax_iload_n f226_150 rfl ?_
      refine ax_iconst f226_151 ?_
      refine ax_irem f226_152 (by omega) (by omega) (by omega) (by omega) ?_
      refine ax_cvI (rest := []) f226_153 o rfl rfl rfl rfl rfl rfl rfl rfl (c_165 o a1 ⟨by omega, by omega⟩) ?_
      rintro h8 ⟨a18, f8⟩
      have hW := hW.mv f8 (by omega) (by omega) (by omega) (by omega)
      have o : Mo h8 _ _ _ _ _ _ _ _ := f8.at (q := 120) (by omega) o
      have a1 := a18
      have F := F.trans (f8.mono fun x e => by omega)
      refine ax_ireturn f226_156 rfl (nb1 b2i_in) ?_
      rw [if_pos (by omega)] at a1
      rw [eT]
      exact ⟨rI_of rfl, ⟨_, _, o⟩, a1, hW, F⟩
  have hK5 := hK
  clear hK
  refine ⟨b2i ((0 ≤ g / 8 % 3 ∧ g / 8 % 3 < 3) ∧ (R 192 = 1 ∨ R 269 = 0)), b2i_in, ?_⟩
  have eT : trn R g = aSk R (g / 8 % 3) := by unfold trn; rw [if_neg (by omega), if_neg (by omega), if_neg (by omega), if_neg (by omega), if_neg (by omega)]
  show am_X 9 226 0 [.ref 120, .int (iI g), am_u] [] h _
  refine ax_iload_n f226_0 rfl ?_
  refine ax_bipush f226_1 ?_
  refine ax_idiv f226_3 (by omega) (by omega) (by omega) (by omega) ?_
  refine ax_istore_n (ls' := [_, _, _]) f226_4 (Nat.le_of_ble_eq_true rfl) rfl ?_
  refine ax_iload_n f226_5 rfl ?_
  refine ax_bipush f226_6 ?_
  refine ax_irem f226_8 (by omega) (by omega) (by omega) (by omega) ?_
  refine ax_tswO f226_9 ⟨by omega, by omega⟩ (by omega) rfl ?_
  refine ax_aload_n f226_157 rfl ?_
  refine ax_iload_n f226_158 rfl ?_
  refine ax_iconst f226_159 ?_
  refine ax_irem f226_160 (by omega) (by omega) (by omega) (by omega) ?_
  refine ax_cvI (rest := []) f226_161 o rfl rfl rfl rfl rfl rfl rfl rfl (c_166 o a1 i ⟨by omega, by omega⟩ hW) ?_
  rintro h8 ⟨⟨lk8, pa8, o8⟩, a18, hW8, f8⟩
  have hW := hW8
  have o : Mo h8 _ _ _ _ _ _ _ _ := o8
  have a1 := a18
  have F := F.trans (f8.mono fun x e => by omega)
  refine ax_ireturn f226_164 rfl (nb1 b2i_in) ?_
  rw [eT]
  exact ⟨rI_of rfl, ⟨_, _, o⟩, a1, hW, F⟩
theorem lp_227 {d : Nat} {Q : am_R → am_H → Prop} {c th L sp fi se m bf : Int} {x1 : Int64} {g : Int64 → Int64} {t : Int64 → Int} (hg : ∀ x : Int64, x * 6364136223846793005 + 1442695040888963407 = g x) (ht : ∀ x : Int64, (x.toUInt64 >>> ((iI 33).toInt64.toUInt64 &&& Int64.toUInt64 63)).toInt64.toInt32 = iI (t x)) (hti : ∀ x, 0 ≤ t x ∧ t x < 2147483648) : ∀ (n : Nat) (j dn : Int) (x : Int64) (R : Int → Int) {h : am_H} {lk pa : Int} (o : Mo h c th lk pa L sp fi se) (a1 : oI h 121 270 R) (hW : Wk h) (i : inv R), j + n = m → 0 ≤ j ∧ m ≤ 60 → (∀ (h' : am_H) (lk' pa' : Int), Mo h' c th lk' pa' L sp fi se → oI h' 121 270 (smR g t n x R) → Wk h' → fr (fun x => x = 120 ∨ x = 121 ∨ x = 126 ∨ x = 127 ∨ x = 128 ∨ x = 129) h h' → ∀ {x9 : Int64} {dn9 : Int}, am_X (d + 10) 227 66 [.ref 120, .long x1, am_u, .int (iI m), .long x9, am_u, .int (iI bf), .int (iI dn9), .int (iI m)] [] h' Q) → am_X (d + 10) 227 19 [.ref 120, .long x1, am_u, .int (iI m), .long x, am_u, .int (iI bf), .int (iI dn), .int (iI j)] [] h Q
  | 0, j, dn, x, R, h, lk, pa, o, a1, hW, i, h1, h2, kk => by
    have h1 : j = m := by omega
    subst h1
    refine ax_iload f227_19 rfl ?_
    refine ax_iload_n f227_21 rfl ?_
    refine ax_icmp_ge f227_22 rfl ⟨by omega, by omega⟩ ⟨by omega, by omega⟩ (fun q22 => ?_) (fun q22 => absurd q22 (by omega))
    exact kk h lk pa o a1 hW fr_rf
  | n + 1, j, dn, x, R, h, lk, pa, o, a1, hW, i, h1, h2, kk => by
    refine ax_iload f227_19 rfl ?_
    refine ax_iload_n f227_21 rfl ?_
    refine ax_icmp_ge f227_22 rfl ⟨by omega, by omega⟩ ⟨by omega, by omega⟩ (fun q22 => absurd q22 (by omega)) (fun q22 => ?_)
    refine ax_lload f227_25 rfl ?_
    refine ax_ldc2_w f227_27 ?_
    refine ax_lmul f227_30 ?_
    refine ax_ldc2_w f227_31 ?_
    refine ax_ladd f227_34 ?_
    rw [hg]
    refine ax_lstore (ls' := [_, _, _, _, _, _, _, _, _]) f227_35 (Nat.le_of_ble_eq_true rfl) rfl ?_
    refine ax_iload f227_37 rfl ?_
    refine ax_aload_n f227_39 rfl ?_
    refine ax_lload f227_40 rfl ?_
    refine ax_bipush f227_42 ?_
    refine ax_lushr f227_44 ?_
    refine ax_l2i f227_45 ?_
    rw [ht]
    obtain ⟨v, hv, hc⟩ := c_226 o a1 i hW (hti (g x))
    refine ax_cvI (rest := [_]) f227_46 o rfl rfl rfl rfl rfl rfl rfl rfl (hc) ?_
    rintro h8 ⟨⟨lk8, pa8, o8⟩, a18, hW8, f8⟩
    have o : Mo h8 _ _ _ _ _ _ _ _ := o8
    have a1 := a18
    refine ax_if_eq f227_49 rfl ⟨by omega, by omega⟩ (fun q49 => ?_) (fun q49 => ?_)
    · refine ax_iconst f227_56 ?_
      refine ax_iadd f227_57 ?_
      refine ax_istore (ls' := [_, _, _, _, _, _, _, _, _]) f227_58 (Nat.le_of_ble_eq_true rfl) rfl ?_
      refine ax_iinc (ls' := [_, _, _, _, _, _, _, _, _]) f227_60 rfl (Nat.le_of_ble_eq_true rfl) rfl ?_
      refine ax_goto f227_63 rfl ?_
      refine lp_227 hg ht hti n (j + 1) _ (g x) _ o a1 hW8 (trn_inv i _) (by omega) (by omega) ?_
      intro h7 lk7 pa7 o7 a17 hW7 f7 x9 dn9
      exact kk h7 lk7 pa7 o7 a17 hW7 (f8.trans f7)
    · refine ax_iconst f227_52 ?_
      refine ax_goto f227_53 rfl ?_
      refine ax_iadd f227_57 ?_
      refine ax_istore (ls' := [_, _, _, _, _, _, _, _, _]) f227_58 (Nat.le_of_ble_eq_true rfl) rfl ?_
      refine ax_iinc (ls' := [_, _, _, _, _, _, _, _, _]) f227_60 rfl (Nat.le_of_ble_eq_true rfl) rfl ?_
      refine ax_goto f227_63 rfl ?_
      refine lp_227 hg ht hti n (j + 1) _ (g x) _ o a1 hW8 (trn_inv i _) (by omega) (by omega) ?_
      intro h7 lk7 pa7 o7 a17 hW7 f7 x9 dn9
      exact kk h7 lk7 pa7 o7 a17 hW7 (f8.trans f7)
theorem c_227 {h : am_H} {R : Int → Int} {c th lk pa L sp fi se : Int} (o : Mo h c th lk pa L sp fi se) (a1 : oI h 121 270 R) (i : inv R) (hW : Wk h) {x : Int64} {m : Int} (h0 : 1 ≤ m ∧ m ≤ 60) : am_X 10 227 0 (am_ent 227 [.ref 120, .long x, .int (iI m)]) [] h (fun r h' => rI r (smu R x m) ∧ (∃ lk' pa', Mo h' c th lk' pa' L sp fi se) ∧ (∃ R', oI h' 121 270 R') ∧ Wk h' ∧ fr (fun x => x = 120 ∨ x = 121 ∨ x = 126 ∨ x = 127 ∨ x = 128 ∨ x = 129) h h') := by
  show am_X 10 227 0 [.ref 120, .long x, am_u, .int (iI m), am_u, am_u, am_u, am_u, am_u] [] h _
  refine ax_lload_n f227_0 rfl ?_
  refine ax_lstore (ls' := [_, _, _, _, _, _, _, _, _]) f227_1 (Nat.le_of_ble_eq_true rfl) rfl ?_
  refine ax_aload_n f227_3 rfl ?_
  refine ax_getf f227_4 o rfl ?_
  refine ax_sipush f227_7 ?_
  refine ax_ialdO f227_10 (by decide) a1 (by omega) (by omega) rfl ?_
  refine ax_istore (ls' := [_, _, _, _, _, _, _, _, _]) f227_11 (Nat.le_of_ble_eq_true rfl) rfl ?_
  refine ax_iconst f227_13 ?_
  refine ax_istore (ls' := [_, _, _, _, _, _, _, _, _]) f227_14 (Nat.le_of_ble_eq_true rfl) rfl ?_
  refine ax_iconst f227_16 ?_
  refine ax_istore (ls' := [_, _, _, _, _, _, _, _, _]) f227_17 (Nat.le_of_ble_eq_true rfl) rfl ?_
  refine lp_227 (d := 0) (g := nxL) (t := tr33) (fun _ => rfl) tr33_z tr33_in m.toNat 0 0 x R o a1 hW i (by omega) (by omega) ?_
  intro h8 lk8 pa8 o8 a18 hW8 f8 x9 dn9
  have o := o8
  have a1 := a18
  have i8 := smR_inv nxL tr33 m.toNat x i
  have w8 := i8.wr
  refine ax_aload_n f227_66 rfl ?_
  refine ax_getf f227_67 o rfl ?_
  refine ax_sipush f227_70 ?_
  refine ax_ialdO f227_73 (by decide) a1 (by omega) (by omega) rfl ?_
  refine ax_bipush f227_74 ?_
  refine ax_icmp_le f227_76 rfl ⟨by omega, by omega⟩ ⟨by omega, by omega⟩ (fun q76 => ?_) (fun q76 => ?_)
  · refine ax_aload_n f227_84 rfl ?_
    refine ax_getf f227_85 o rfl ?_
    refine ax_sipush f227_88 ?_
    refine ax_ialdO f227_91 (by decide) a1 (by omega) (by omega) rfl ?_
    refine ax_istore (ls' := [_, _, _, _, _, _, _, _, _]) f227_92 (Nat.le_of_ble_eq_true rfl) rfl ?_
    refine ax_sipush f227_94 ?_
    refine ax_aload_n f227_97 rfl ?_
    refine ax_getf f227_98 o rfl ?_
    refine ax_sipush f227_101 ?_
    refine ax_ialdO f227_104 (by decide) a1 (by omega) (by omega) rfl ?_
    refine ax_iload f227_105 rfl ?_
    refine ax_isub f227_107 ?_
    refine ax_imul f227_108 ?_
    refine ax_bipush f227_109 ?_
    refine ax_aload_n f227_111 rfl ?_
    refine ax_getf f227_112 o rfl ?_
    refine ax_sipush f227_115 ?_
    refine ax_ialdO f227_118 (by decide) a1 (by omega) (by omega) rfl ?_
    refine ax_imul f227_119 ?_
    refine ax_iadd f227_120 ?_
    refine ax_iload f227_121 rfl ?_
    refine ax_iadd f227_123 ?_
    refine ax_ireturn f227_124 rfl rfl ?_
    exact ⟨rI_of (by unfold smu; omega), ⟨_, _, o⟩, ⟨_, a1⟩, hW8, f8⟩
  · refine ax_bipush f227_79 ?_
    refine ax_goto f227_81 rfl ?_
    refine ax_istore (ls' := [_, _, _, _, _, _, _, _, _]) f227_92 (Nat.le_of_ble_eq_true rfl) rfl ?_
    refine ax_sipush f227_94 ?_
    refine ax_aload_n f227_97 rfl ?_
    refine ax_getf f227_98 o rfl ?_
    refine ax_sipush f227_101 ?_
    refine ax_ialdO f227_104 (by decide) a1 (by omega) (by omega) rfl ?_
    refine ax_iload f227_105 rfl ?_
    refine ax_isub f227_107 ?_
    refine ax_imul f227_108 ?_
    refine ax_bipush f227_109 ?_
    refine ax_aload_n f227_111 rfl ?_
    refine ax_getf f227_112 o rfl ?_
    refine ax_sipush f227_115 ?_
    refine ax_ialdO f227_118 (by decide) a1 (by omega) (by omega) rfl ?_
    refine ax_imul f227_119 ?_
    refine ax_iadd f227_120 ?_
    refine ax_iload f227_121 rfl ?_
    refine ax_iadd f227_123 ?_
    refine ax_ireturn f227_124 rfl rfl ?_
    exact ⟨rI_of (by unfold smu; omega), ⟨_, _, o⟩, ⟨_, a1⟩, hW8, f8⟩
theorem lp_224 {d N : Nat} {c th L sp fi se nn : Int} (hN : N < 2 ^ 63) : ∀ (n : Nat) (k : Int) {R : Int → Int} {h : am_H} {lk pa : Int} {x8 : Value} (o : Mo h c th lk pa L sp fi se) (a1 : oI h 121 270 R) (hW : Wk h) (i : inv R), k + n = nn → 0 ≤ k ∧ nn ≤ 3 → am_X (d + 10) 224 31 [.ref 120, .int (iI nn), .long (lN N), am_u, .long (lN (100000 ^ n / 100000)), am_u, .int (iI (-1)), .int (iI k), x8] [] h (fun r h' => rI r (rsl N n R k) ∧ (∃ lk' pa', Mo h' c th lk' pa' L sp fi se) ∧ (∃ R', oI h' 121 270 R') ∧ Wk h' ∧ fr (fun x => x = 120 ∨ x = 121 ∨ x = 126 ∨ x = 127 ∨ x = 128 ∨ x = 129) h h')
  | 0, k, R, h, lk, pa, x8, o, a1, hW, i, h1, h2 => by
    have h1 : k = nn := by omega
    subst h1
    refine ax_iload f224_31 rfl ?_
    refine ax_iload_n f224_33 rfl ?_
    refine ax_icmp_ge f224_34 rfl ⟨by omega, by omega⟩ ⟨by omega, by omega⟩ (fun q34 => ?_) (fun q34 => absurd q34 (by omega))
    refine ax_iload f224_110 rfl ?_
    refine ax_ireturn f224_112 rfl rfl ?_
    exact ⟨rI_of rfl, ⟨_, _, o⟩, ⟨_, a1⟩, hW, fr_rf⟩
  | n + 1, k, R, h, lk, pa, x8, o, a1, hW, i, h1, h2 => by
    have eB : 100000 ^ (n + 1) / 100000 = 100000 ^ n := by rw [Nat.pow_succ]; exact Nat.mul_div_cancel _ (by decide)
    have hB := pw5 n (by omega)
    have hBp : 0 < 100000 ^ n := Nat.pow_pos (by decide)
    have hB0 : ¬ lN (100000 ^ n) = 0 := fun z => by
      have z2 := lN_inj (Nat.lt_of_lt_of_le hB (by decide)) (show 0 < 2 ^ 64 by decide) (show lN (100000 ^ n) = lN 0 from z)
      omega
    rw [eB]
    refine ax_iload f224_31 rfl ?_
    refine ax_iload_n f224_33 rfl ?_
    refine ax_icmp_ge f224_34 rfl ⟨by omega, by omega⟩ ⟨by omega, by omega⟩ (fun q34 => absurd q34 (by omega)) (fun q34 => ?_)
    refine ax_iload f224_37 rfl ?_
    refine ax_iconst f224_39 ?_
    refine ax_icmp_ne f224_40 rfl ⟨by omega, by omega⟩ ⟨by omega, by omega⟩ (fun q40 => absurd q40 (by omega)) (fun q40 => ?_)
    refine ax_lload_n f224_43 rfl ?_
    refine ax_lload f224_44 rfl ?_
    refine ax_ldiv f224_46 hB0 ?_
    rw [lN_div hN hB hBp]
    refine ax_ldc2_w f224_47 ?_
    rw [show (100000 : Int64) = lN 100000 from rfl]
    refine ax_lrem f224_50 (by decide) ?_
    rw [lN_rem (Nat.lt_of_le_of_lt (Nat.div_le_self _ _) hN) (by decide) (by decide)]
    refine ax_l2i f224_51 ?_
    rw [lN_i, ← iI_nat]
    obtain ⟨gg, hgg⟩ : ∃ gg : Int, ((N / 100000 ^ n % 100000 : Nat) : Int) = gg := ⟨_, rfl⟩
    have hg2 : 0 ≤ gg ∧ gg < 100000 := by
      have := Nat.mod_lt (N / 100000 ^ n) (show 0 < 100000 by decide)
      omega
    rw [hgg]
    refine ax_istore (ls' := [_, _, _, _, _, _, _, _, _]) f224_52 (Nat.le_of_ble_eq_true rfl) rfl ?_
    refine ax_aload_n f224_54 rfl ?_
    refine ax_iload f224_55 rfl ?_
    refine ax_sipush f224_57 ?_
    refine ax_idiv f224_60 (by omega) (by omega) (by omega) (by omega) ?_
    refine ax_iload f224_61 rfl ?_
    refine ax_bipush f224_63 ?_
    refine ax_idiv f224_65 (by omega) (by omega) (by omega) (by omega) ?_
    refine ax_bipush f224_66 ?_
    refine ax_irem f224_68 (by omega) (by omega) (by omega) (by omega) ?_
    refine ax_iload f224_69 rfl ?_
    refine ax_bipush f224_71 ?_
    refine ax_idiv f224_73 (by omega) (by omega) (by omega) (by omega) ?_
    refine ax_bipush f224_74 ?_
    refine ax_irem f224_76 (by omega) (by omega) (by omega) (by omega) ?_
    refine ax_iload f224_77 rfl ?_
    refine ax_bipush f224_79 ?_
    refine ax_irem f224_81 (by omega) (by omega) (by omega) (by omega) ?_
    refine ax_cvI (rest := []) f224_82 o rfl rfl rfl rfl rfl rfl rfl rfl (c_223 o a1 i hW hg2) ?_
    rintro h8 ⟨⟨lk8, pa8, o8⟩, a18, hW8, f8⟩
    have h01 := scs_01 (R := R) (g := gg)
    have o : Mo h8 _ _ _ _ _ _ _ _ := o8
    have a1 := a18
    refine ax_if_eq f224_85 rfl ⟨by omega, by omega⟩ (fun q85 => ?_) (fun q85 => ?_)
    · refine ax_iload f224_92 rfl ?_
      refine ax_istore (ls' := [_, _, _, _, _, _, _, _, _]) f224_94 (Nat.le_of_ble_eq_true rfl) rfl ?_
      refine ax_lload f224_96 rfl ?_
      refine ax_ldc2_w f224_98 ?_
      rw [show (100000 : Int64) = lN 100000 from rfl]
      refine ax_ldiv f224_101 (by decide) ?_
      rw [lN_div hB (by decide) (by decide)]
      refine ax_lstore (ls' := [_, _, _, _, _, _, _, _, _]) f224_102 (Nat.le_of_ble_eq_true rfl) rfl ?_
      refine ax_iinc (ls' := [_, _, _, _, _, _, _, _, _]) f224_104 rfl (Nat.le_of_ble_eq_true rfl) rfl ?_
      refine ax_goto f224_107 rfl ?_
      refine ax_iload f224_31 rfl ?_
      refine ax_iload_n f224_33 rfl ?_
      refine ax_icmp_ge f224_34 rfl ⟨by omega, by omega⟩ ⟨by omega, by omega⟩ (fun q34 => ?_) (fun q34 => ?_)
      · refine ax_iload f224_110 rfl ?_
        refine ax_ireturn f224_112 rfl rfl ?_
        have e : rsl N (n + 1) R k = k := by
          show (if _ then _ else _) = _
          rw [hgg, if_neg (by omega)]
        rw [e]
        exact ⟨rI_of rfl, ⟨_, _, o⟩, ⟨_, a1⟩, hW8, f8⟩
      · refine ax_iload f224_37 rfl ?_
        refine ax_iconst f224_39 ?_
        refine ax_icmp_ne f224_40 rfl ⟨by omega, by omega⟩ ⟨by omega, by omega⟩ (fun q40 => ?_) (fun q40 => absurd q40 (by omega))
        refine ax_iload f224_110 rfl ?_
        refine ax_ireturn f224_112 rfl rfl ?_
        have e : rsl N (n + 1) R k = k := by
          show (if _ then _ else _) = _
          rw [hgg, if_neg (by omega)]
        rw [e]
        exact ⟨rI_of rfl, ⟨_, _, o⟩, ⟨_, a1⟩, hW8, f8⟩
    · refine ax_iconst f224_88 ?_
      refine ax_goto f224_89 rfl ?_
      refine ax_istore (ls' := [_, _, _, _, _, _, _, _, _]) f224_94 (Nat.le_of_ble_eq_true rfl) rfl ?_
      refine ax_lload f224_96 rfl ?_
      refine ax_ldc2_w f224_98 ?_
      rw [show (100000 : Int64) = lN 100000 from rfl]
      refine ax_ldiv f224_101 (by decide) ?_
      rw [lN_div hB (by decide) (by decide)]
      refine ax_lstore (ls' := [_, _, _, _, _, _, _, _, _]) f224_102 (Nat.le_of_ble_eq_true rfl) rfl ?_
      refine ax_iinc (ls' := [_, _, _, _, _, _, _, _, _]) f224_104 rfl (Nat.le_of_ble_eq_true rfl) rfl ?_
      refine ax_goto f224_107 rfl ?_
      refine am_X_mono (lp_224 hN n (k + 1) (x8 := .int (iI gg)) o a1 hW8 (scs_inv i _) (by omega) ⟨by omega, by omega⟩) (Nat.le_refl _) ?_
      rintro r h' ⟨k1, k2, k3, k4, k5⟩
      have e : rsl N (n + 1) R k = rsl N n (scs R gg).2 (k + 1) := by
        show (if _ then _ else _) = _
        rw [hgg, if_pos (by omega)]
      rw [e]
      exact ⟨k1, k2, k3, k4, f8.trans k5⟩
theorem c_224 {h : am_H} {R : Int → Int} {c th lk pa L sp fi se : Int} (o : Mo h c th lk pa L sp fi se) (a1 : oI h 121 270 R) (i : inv R) (hW : Wk h) {N : Nat} (hN : N < 2 ^ 63) {m : Int} (h0 : 1 ≤ m ∧ m ≤ 3) : am_X 10 224 0 (am_ent 224 [.ref 120, .int (iI m), .long (lN N)]) [] h (fun r h' => rI r (rsl N m.toNat R 0) ∧ (∃ lk' pa', Mo h' c th lk' pa' L sp fi se) ∧ (∃ R', oI h' 121 270 R') ∧ Wk h' ∧ fr (fun x => x = 120 ∨ x = 121 ∨ x = 126 ∨ x = 127 ∨ x = 128 ∨ x = 129) h h') := by
  show am_X 10 224 0 [.ref 120, .int (iI m), .long (lN N), am_u, am_u, am_u, am_u, am_u, am_u] [] h _
  rcases (show m = 1 ∨ m = 2 ∨ m = 3 by omega) with rfl | rfl | rfl
  · refine ax_iload_n f224_0 rfl ?_
    refine ax_iconst f224_1 ?_
    refine ax_icmp_ne f224_2 rfl ⟨by omega, by omega⟩ ⟨by omega, by omega⟩ (fun q2 => ?_) (fun q2 => absurd q2 (by omega))
    refine ax_iload_n f224_11 rfl ?_
    refine ax_iconst f224_12 ?_
    refine ax_icmp_ne f224_13 rfl ⟨by omega, by omega⟩ ⟨by omega, by omega⟩ (fun q13 => ?_) (fun q13 => absurd q13 (by omega))
    refine ax_lconst f224_22 ?_
    refine ax_lstore (ls' := [_, _, _, _, _, _, _, _, _]) f224_23 (Nat.le_of_ble_eq_true rfl) rfl ?_
    refine ax_iconst f224_25 ?_
    refine ax_istore (ls' := [_, _, _, _, _, _, _, _, _]) f224_26 (Nat.le_of_ble_eq_true rfl) rfl ?_
    refine ax_iconst f224_28 ?_
    refine ax_istore (ls' := [_, _, _, _, _, _, _, _, _]) f224_29 (Nat.le_of_ble_eq_true rfl) rfl ?_
    have z := lp_224 (d := 0) (nn := 1) hN 1 0 (x8 := am_u) o a1 hW i (by omega) (by omega)
    rw [show lN (100000 ^ 1 / 100000) = (1 : Int64) from rfl] at z
    exact z
  · refine ax_iload_n f224_0 rfl ?_
    refine ax_iconst f224_1 ?_
    refine ax_icmp_ne f224_2 rfl ⟨by omega, by omega⟩ ⟨by omega, by omega⟩ (fun q2 => ?_) (fun q2 => absurd q2 (by omega))
    refine ax_iload_n f224_11 rfl ?_
    refine ax_iconst f224_12 ?_
    refine ax_icmp_ne f224_13 rfl ⟨by omega, by omega⟩ ⟨by omega, by omega⟩ (fun q13 => absurd q13 (by omega)) (fun q13 => ?_)
    refine ax_ldc2_w f224_16 ?_
    refine ax_goto f224_19 rfl ?_
    refine ax_lstore (ls' := [_, _, _, _, _, _, _, _, _]) f224_23 (Nat.le_of_ble_eq_true rfl) rfl ?_
    refine ax_iconst f224_25 ?_
    refine ax_istore (ls' := [_, _, _, _, _, _, _, _, _]) f224_26 (Nat.le_of_ble_eq_true rfl) rfl ?_
    refine ax_iconst f224_28 ?_
    refine ax_istore (ls' := [_, _, _, _, _, _, _, _, _]) f224_29 (Nat.le_of_ble_eq_true rfl) rfl ?_
    have z := lp_224 (d := 0) (nn := 2) hN 2 0 (x8 := am_u) o a1 hW i (by omega) (by omega)
    rw [show lN (100000 ^ 2 / 100000) = (100000 : Int64) from rfl] at z
    exact z
  · refine ax_iload_n f224_0 rfl ?_
    refine ax_iconst f224_1 ?_
    refine ax_icmp_ne f224_2 rfl ⟨by omega, by omega⟩ ⟨by omega, by omega⟩ (fun q2 => absurd q2 (by omega)) (fun q2 => ?_)
    refine ax_ldc2_w f224_5 ?_
    refine ax_goto f224_8 rfl ?_
    refine ax_lstore (ls' := [_, _, _, _, _, _, _, _, _]) f224_23 (Nat.le_of_ble_eq_true rfl) rfl ?_
    refine ax_iconst f224_25 ?_
    refine ax_istore (ls' := [_, _, _, _, _, _, _, _, _]) f224_26 (Nat.le_of_ble_eq_true rfl) rfl ?_
    refine ax_iconst f224_28 ?_
    refine ax_istore (ls' := [_, _, _, _, _, _, _, _, _]) f224_29 (Nat.le_of_ble_eq_true rfl) rfl ?_
    have z := lp_224 (d := 0) (nn := 3) hN 3 0 (x8 := am_u) o a1 hW i (by omega) (by omega)
    rw [show lN (100000 ^ 3 / 100000) = (10000000000 : Int64) from rfl] at z
    exact z
end MTU
