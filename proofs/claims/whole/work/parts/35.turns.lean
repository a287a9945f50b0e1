/-! ===== turns of simulations, commands of scripts ===== -/
section SIM
def trn (R : Int → Int) (r : Int) : Int → Int :=
  if r % 8 = 0 ∨ r % 8 = 1 then aAw R (r / 8 % 48) (if r / 8 / 48 % 3 = 0 then 0 else 1)
  else if r % 8 = 2 then aWe R (r / 8 % 48) (1 + r / 8 / 48 % 99)
  else if r % 8 = 3 then aFe R (1 + r / 8 % 47) (if r / 8 / 64 % 2 = 0 then 1 else 0)
  else if r % 8 = 4 then tel R
  else if r % 8 = 5 then (if r / 8 / 128 % 2 = 0 then aLi R (r / 8 % 12) (r / 8 / 16 % 5 - 2) else uZ R 269 (r / 8 % 2))
  else aSk R (r / 8 % 3)
theorem trn_inv {R : Int → Int} (i : inv R) (r : Int) : inv (trn R r) := by
  unfold trn
  split
  · exact aAw_inv i _ (by split <;> simp)
  · split
    · exact aWe_inv i _ _
    · split
      · exact aFe_inv i _ (by split <;> simp)
      · split
        · exact inv_te i
        · split
          · split
            · exact aLi_inv i _ _
            · exact inv_tr i (by omega)
          · exact aSk_inv i _
/-- the trust alone is set -/
theorem Mead_tr {h h' : am_H} {p : Nat} {R : Int → Int} {v : Int} (a : Mead h p R) (o : h'.1[p]? = some (.inr (3, (Mfs p R).set 8 (.int (iI v))))) (b : fr (fun q => q = p) h h') : Mead h' p (uZ R 269 v) := by
  obtain ⟨_, mw, ml, mi, ms⟩ := a
  refine ⟨Mo_eq o (Mfs_mk ?_ ?_ ?_ ?_ ?_ ?_ ?_ ?_), (mw.fr b (by omega)).eq fun j j1 j2 => uZ_n (by omega), (ml.fr b (by omega)).eq fun j j1 j2 => uZ_n (by omega), (mi.fr b (by omega)).eq fun j j1 j2 => uZ_n (by omega), (ms.fr b (by omega)).eq fun j j1 j2 => uZ_n (by omega)⟩
  · exact lB_congE fun j j1 j2 => (uZ_n (by omega)).symm
  · exact lB_congE fun j j1 j2 => (uZ_n (by omega)).symm
  · exact lB_congE fun j j1 j2 => (uZ_n (by omega)).symm
  · rw [uZ_n (by omega)]
  · rw [uZ_s]
  · rw [uZ_n (by omega)]
  · rw [uZ_n (by omega)]
  · rw [uZ_n (by omega)]
theorem c_85 {h : am_H} {q : Nat} {R : Int → Int} (hH : Herd h q R) (i : inv R) {z : Int} (h1 : 0 ≤ z) (h2 : z < 2147483648) : am_X 5 85 0 (am_ent 85 [.ref q, .int (iI z)]) [] h (fun r h' => rV r ∧ Herd h' q (if z / 128 % 2 = 0 then aLi R (z % 12) (z / 16 % 5 - 2) else uZ R 269 (z % 2)) ∧ fr (HS q) h h') := by
  show am_X 5 85 0 [.ref q, .int (iI z)] [] h _
  refine ax_iload_n f85_0 rfl ?_
  refine ax_sipush f85_1 ?_
  refine ax_idiv f85_4 (by omega) (by omega) (by omega) (by omega) ?_
  refine ax_iconst f85_5 ?_
  refine ax_irem f85_6 (by omega) (by omega) (by omega) (by omega) ?_
  refine ax_if_ne f85_7 rfl ⟨by omega, by omega⟩ (fun q7 => ?_) (fun q7 => ?_)
  · refine ax_aload_n f85_30 rfl ?_
    refine ax_getf f85_31 hH.1 rfl ?_
    refine ax_iload_n f85_34 rfl ?_
    refine ax_iconst f85_35 ?_
    refine ax_irem f85_36 (by omega) (by omega) (by omega) (by omega) ?_
    refine ax_putfO f85_37 hH.2.1.1 rfl rfl rfl rfl (fun h1 o1 r1 => ?_)
    refine ax_return f85_40 rfl ?_
    rw [if_neg q7]
    exact ⟨rfl, hH.me (Mead_tr hH.2.1 o1 r1) (r1.mono (fun x e => by unfold MS; omega)), r1.mono (fun x e => by unfold HS; omega)⟩
  · refine ax_aload_n f85_10 rfl ?_
    refine ax_iload_n f85_11 rfl ?_
    refine ax_bipush f85_12 ?_
    refine ax_irem f85_14 (by omega) (by omega) (by omega) (by omega) ?_
    refine ax_iload_n f85_15 rfl ?_
    refine ax_bipush f85_16 ?_
    refine ax_idiv f85_18 (by omega) (by omega) (by omega) (by omega) ?_
    refine ax_iconst f85_19 ?_
    refine ax_irem f85_20 (by omega) (by omega) (by omega) (by omega) ?_
    refine ax_iconst f85_21 ?_
    refine ax_isub f85_22 ?_
    refine ax_cvI (rest := []) f85_23 hH.1 rfl rfl rfl rfl rfl rfl rfl rfl (c_33 hH i ⟨by omega, by omega⟩ ⟨by omega, by omega⟩) ?_
    rintro h9 ⟨H9, f9⟩
    refine ax_pop f85_26 rfl ?_
    refine ax_goto f85_27 rfl ?_
    refine ax_return f85_40 rfl ?_
    rw [if_pos (Decidable.not_not.mp q7)]
    exact ⟨rfl, H9, f9⟩
theorem c_84 {h : am_H} {q : Nat} {R : Int → Int} (hH : Herd h q R) (i : inv R) {z : Int} (h1 : 0 ≤ z) (h2 : z < 2147483648) : am_X 55 84 0 (am_ent 84 [.ref q, .int (iI z)]) [] h (fun r h' => rV r ∧ Herd h' q (trn R z) ∧ fr (HS q) h h') := by
  show am_X 55 84 0 [.ref q, .int (iI z), am_u] [] h _
  refine ax_iload_n f84_0 rfl ?_
  refine ax_bipush f84_1 ?_
  refine ax_idiv f84_3 (by omega) (by omega) (by omega) (by omega) ?_
  refine ax_istore_n (ls' := [_, _, _]) f84_4 (Nat.le_of_ble_eq_true rfl) rfl ?_
  refine ax_iload_n f84_5 rfl ?_
  refine ax_bipush f84_6 ?_
  refine ax_irem f84_8 (by omega) (by omega) (by omega) (by omega) ?_
  rcases (show z % 8 = 0 ∨ z % 8 = 1 ∨ z % 8 = 2 ∨ z % 8 = 3 ∨ z % 8 = 4 ∨ z % 8 = 5 ∨ z % 8 = 6 ∨ z % 8 = 7 by omega) with hc | hc | hc | hc | hc | hc | hc | hc
  · refine ax_nmI hc ?_
    refine ax_tswI f84_9 ⟨by omega, by omega⟩ (by omega) (by omega) rfl rfl ?_
    refine ax_aload_n f84_48 rfl ?_
    refine ax_iload_n f84_49 rfl ?_
    refine ax_bipush f84_50 ?_
    refine ax_irem f84_52 (by omega) (by omega) (by omega) (by omega) ?_
    refine ax_iload_n f84_53 rfl ?_
    refine ax_bipush f84_54 ?_
    refine ax_idiv f84_56 (by omega) (by omega) (by omega) (by omega) ?_
    refine ax_iconst f84_57 ?_
    refine ax_irem f84_58 (by omega) (by omega) (by omega) (by omega) ?_
    refine ax_if_eq f84_59 rfl ⟨by omega, by omega⟩ (fun q59 => ?_) (fun q59 => ?_)
    · refine ax_iconst f84_66 ?_
      refine ax_cvI (rest := []) f84_67 hH.1 rfl rfl rfl rfl rfl rfl rfl rfl (c_30 hH i ⟨by omega, by omega⟩ (Or.inl rfl)) ?_
      rintro h9 ⟨H9, f9⟩
      refine ax_pop f84_70 rfl ?_
      refine ax_goto f84_71 rfl ?_
      refine ax_return f84_147 rfl ?_
      refine ⟨rfl, ?_, f9⟩
      unfold trn
      rw [if_pos (by omega), if_pos (c := z / 8 / 48 % 3 = 0) (by omega)]
      exact H9
    · refine ax_iconst f84_62 ?_
      refine ax_goto f84_63 rfl ?_
      refine ax_cvI (rest := []) f84_67 hH.1 rfl rfl rfl rfl rfl rfl rfl rfl (c_30 hH i ⟨by omega, by omega⟩ (Or.inr rfl)) ?_
      rintro h9 ⟨H9, f9⟩
      refine ax_pop f84_70 rfl ?_
      refine ax_goto f84_71 rfl ?_
      refine ax_return f84_147 rfl ?_
      refine ⟨rfl, ?_, f9⟩
      unfold trn
      rw [if_pos (by omega), if_neg (c := z / 8 / 48 % 3 = 0) (by omega)]
      exact H9
  · refine ax_nmI hc ?_
    refine ax_tswI f84_9 ⟨by omega, by omega⟩ (by omega) (by omega) rfl rfl ?_
    refine ax_aload_n f84_48 rfl ?_
    refine ax_iload_n f84_49 rfl ?_
    refine ax_bipush f84_50 ?_
    refine ax_irem f84_52 (by omega) (by omega) (by omega) (by omega) ?_
    refine ax_iload_n f84_53 rfl ?_
    refine ax_bipush f84_54 ?_
    refine ax_idiv f84_56 (by omega) (by omega) (by omega) (by omega) ?_
    refine ax_iconst f84_57 ?_
    refine ax_irem f84_58 (by omega) (by omega) (by omega) (by omega) ?_
    refine ax_if_eq f84_59 rfl ⟨by omega, by omega⟩ (fun q59 => ?_) (fun q59 => ?_)
    · refine ax_iconst f84_66 ?_
      refine ax_cvI (rest := []) f84_67 hH.1 rfl rfl rfl rfl rfl rfl rfl rfl (c_30 hH i ⟨by omega, by omega⟩ (Or.inl rfl)) ?_
      rintro h9 ⟨H9, f9⟩
      refine ax_pop f84_70 rfl ?_
      refine ax_goto f84_71 rfl ?_
      refine ax_return f84_147 rfl ?_
      refine ⟨rfl, ?_, f9⟩
      unfold trn
      rw [if_pos (by omega), if_pos (c := z / 8 / 48 % 3 = 0) (by omega)]
      exact H9
    · refine ax_iconst f84_62 ?_
      refine ax_goto f84_63 rfl ?_
      refine ax_cvI (rest := []) f84_67 hH.1 rfl rfl rfl rfl rfl rfl rfl rfl (c_30 hH i ⟨by omega, by omega⟩ (Or.inr rfl)) ?_
      rintro h9 ⟨H9, f9⟩
      refine ax_pop f84_70 rfl ?_
      refine ax_goto f84_71 rfl ?_
      refine ax_return f84_147 rfl ?_
      refine ⟨rfl, ?_, f9⟩
      unfold trn
      rw [if_pos (by omega), if_neg (c := z / 8 / 48 % 3 = 0) (by omega)]
      exact H9
  · refine ax_nmI hc ?_
    refine ax_tswI f84_9 ⟨by omega, by omega⟩ (by omega) (by omega) rfl rfl ?_
    refine ax_aload_n f84_74 rfl ?_
    refine ax_iload_n f84_75 rfl ?_
    refine ax_bipush f84_76 ?_
    refine ax_irem f84_78 (by omega) (by omega) (by omega) (by omega) ?_
    refine ax_iconst f84_79 ?_
    refine ax_iload_n f84_80 rfl ?_
    refine ax_bipush f84_81 ?_
    refine ax_idiv f84_83 (by omega) (by omega) (by omega) (by omega) ?_
    refine ax_bipush f84_84 ?_
    refine ax_irem f84_86 (by omega) (by omega) (by omega) (by omega) ?_
    refine ax_iadd f84_87 ?_
    refine ax_cvI (rest := []) f84_88 hH.1 rfl rfl rfl rfl rfl rfl rfl rfl (c_29 hH i ⟨by omega, by omega⟩ ⟨by omega, by omega⟩) ?_
    rintro h9 ⟨H9, f9⟩
    refine ax_pop f84_91 rfl ?_
    refine ax_goto f84_92 rfl ?_
    refine ax_return f84_147 rfl ?_
    refine ⟨rfl, ?_, f9⟩
    unfold trn
    rw [if_neg (by omega), if_pos hc]
    exact H9
  · refine ax_nmI hc ?_
    refine ax_tswI f84_9 ⟨by omega, by omega⟩ (by omega) (by omega) rfl rfl ?_
    refine ax_aload_n f84_95 rfl ?_
    refine ax_iconst f84_96 ?_
    refine ax_iload_n f84_97 rfl ?_
    refine ax_bipush f84_98 ?_
    refine ax_irem f84_100 (by omega) (by omega) (by omega) (by omega) ?_
    refine ax_iadd f84_101 ?_
    refine ax_iload_n f84_102 rfl ?_
    refine ax_bipush f84_103 ?_
    refine ax_idiv f84_105 (by omega) (by omega) (by omega) (by omega) ?_
    refine ax_iconst f84_106 ?_
    refine ax_irem f84_107 (by omega) (by omega) (by omega) (by omega) ?_
    refine ax_if_ne f84_108 rfl ⟨by omega, by omega⟩ (fun q108 => ?_) (fun q108 => ?_)
    · refine ax_iconst f84_115 ?_
      refine ax_cvI (rest := []) f84_116 hH.1 rfl rfl rfl rfl rfl rfl rfl rfl (c_31 hH i ⟨by omega, by omega⟩ (Or.inl rfl)) ?_
      rintro h9 ⟨H9, f9⟩
      refine ax_pop f84_119 rfl ?_
      refine ax_goto f84_120 rfl ?_
      refine ax_return f84_147 rfl ?_
      refine ⟨rfl, ?_, f9⟩
      unfold trn
      rw [if_neg (by omega), if_neg (by omega), if_pos hc]
      rw [if_neg (c := z / 8 / 64 % 2 = 0) (by omega)]
      exact H9
    · refine ax_iconst f84_111 ?_
      refine ax_goto f84_112 rfl ?_
      refine ax_cvI (rest := []) f84_116 hH.1 rfl rfl rfl rfl rfl rfl rfl rfl (c_31 hH i ⟨by omega, by omega⟩ (Or.inr rfl)) ?_
      rintro h9 ⟨H9, f9⟩
      refine ax_pop f84_119 rfl ?_
      refine ax_goto f84_120 rfl ?_
      refine ax_return f84_147 rfl ?_
      refine ⟨rfl, ?_, f9⟩
      unfold trn
      rw [if_neg (by omega), if_neg (by omega), if_pos hc]
      rw [if_pos (c := z / 8 / 64 % 2 = 0) (by omega)]
      exact H9
  · refine ax_nmI hc ?_
    refine ax_tswI f84_9 ⟨by omega, by omega⟩ (by omega) (by omega) rfl rfl ?_
    refine ax_aload_n f84_123 rfl ?_
    refine ax_cvI (rest := []) f84_124 hH.1 rfl rfl rfl rfl rfl rfl rfl rfl (c_34 hH i) ?_
    rintro h9 ⟨H9, f9⟩
    refine ax_pop f84_127 rfl ?_
    refine ax_goto f84_128 rfl ?_
    refine ax_return f84_147 rfl ?_
    refine ⟨rfl, ?_, f9⟩
    unfold trn
    rw [if_neg (by omega), if_neg (by omega), if_neg (by omega), if_pos hc]
    exact H9
  · refine ax_nmI hc ?_
    refine ax_tswI f84_9 ⟨by omega, by omega⟩ (by omega) (by omega) rfl rfl ?_
    refine ax_aload_n f84_131 rfl ?_
    refine ax_iload_n f84_132 rfl ?_
    refine ax_csV (rest := []) f84_133 (Or.inl rfl) rfl rfl rfl rfl rfl rfl (c_85 hH i (z := z / 8) (by omega) (by omega)) ?_
    rintro h9 ⟨H9, f9⟩
    refine ax_goto f84_136 rfl ?_
    refine ax_return f84_147 rfl ?_
    refine ⟨rfl, ?_, f9⟩
    unfold trn
    rw [if_neg (by omega), if_neg (by omega), if_neg (by omega), if_neg (by omega), if_pos hc]
    exact H9
  · refine ax_nmI hc ?_
    refine ax_tswO f84_9 ⟨by omega, by omega⟩ (by omega) rfl ?_
    refine ax_aload_n f84_139 rfl ?_
    refine ax_iload_n f84_140 rfl ?_
    refine ax_iconst f84_141 ?_
    refine ax_irem f84_142 (by omega) (by omega) (by omega) (by omega) ?_
    refine ax_cvI (rest := []) f84_143 hH.1 rfl rfl rfl rfl rfl rfl rfl rfl (c_35 hH i ⟨by omega, by omega⟩) ?_
    rintro h9 ⟨H9, f9⟩
    refine ax_pop f84_146 rfl ?_
    refine ax_return f84_147 rfl ?_
    refine ⟨rfl, ?_, f9⟩
    unfold trn
    rw [if_neg (by omega), if_neg (by omega), if_neg (by omega), if_neg (by omega), if_neg (by omega)]
    exact H9
  · refine ax_nmI hc ?_
    refine ax_tswO f84_9 ⟨by omega, by omega⟩ (by omega) rfl ?_
    refine ax_aload_n f84_139 rfl ?_
    refine ax_iload_n f84_140 rfl ?_
    refine ax_iconst f84_141 ?_
    refine ax_irem f84_142 (by omega) (by omega) (by omega) (by omega) ?_
    refine ax_cvI (rest := []) f84_143 hH.1 rfl rfl rfl rfl rfl rfl rfl rfl (c_35 hH i ⟨by omega, by omega⟩) ?_
    rintro h9 ⟨H9, f9⟩
    refine ax_pop f84_146 rfl ?_
    refine ax_return f84_147 rfl ?_
    refine ⟨rfl, ?_, f9⟩
    unfold trn
    rw [if_neg (by omega), if_neg (by omega), if_neg (by omega), if_neg (by omega), if_neg (by omega)]
    exact H9
def scs (R : Int → Int) (g : Int) : Int × (Int → Int) :=
  if g / 10000 = 1 then (if g % 100 < 2 then (b2i (0 ≤ g / 100 % 100 ∧ g / 100 % 100 < 48), aAw R (g / 100 % 100) (if g % 10 = 1 then 1 else 0)) else (0, R))
  else if g / 10000 = 2 then (if g % 100 < 2 then (b2i ((1 ≤ g / 100 % 100 ∧ g / 100 % 100 < 48) ∧ ((if g % 10 = 1 then 1 else 0 : Int) = 0 ∨ R (144 + g / 100 % 100) = 1 ∨ blk R ≤ 11)), aFe R (g / 100 % 100) (if g % 10 = 1 then 1 else 0)) else (0, R))
  else if g / 10000 = 3 then (if g / 10 % 10 = 0 then (b2i ((0 ≤ g / 100 % 100 ∧ g / 100 % 100 < blk R) ∧ (-2 ≤ g % 10 - 2 ∧ g % 10 - 2 ≤ 2)), aLi R (g / 100 % 100) (g % 10 - 2)) else (0, R))
  else if g / 10000 = 4 then (if g / 100 % 100 = 0 ∧ g % 100 = 0 then (1, tel R) else (0, R))
  else if g / 10000 = 5 then (if g / 100 % 100 = 0 ∧ g / 10 % 10 = 0 then (b2i ((0 ≤ g % 10 ∧ g % 10 < 3) ∧ (R 192 = 1 ∨ R 269 = 0)), aSk R (g % 10)) else (0, R))
  else if g / 10000 = 6 then (b2i (R 217 ≤ g % 10000), R)
  else if g / 10000 = 7 then (b2i (g / 10 % 10 = 0 ∧ (0 ≤ g / 100 % 100 ∧ g / 100 % 100 < 48) ∧ R (218 + g / 100 % 100) = g % 10), R)
  else if g / 10000 = 8 then (b2i ((0 ≤ g / 100 % 100 ∧ g / 100 % 100 < blk R) ∧ g % 100 ≤ fro R (g / 100 % 100 + 1) - fro R (g / 100 % 100)), R)
  else if g / 10000 = 9 then (b2i (g / 100 % 100 = 0 ∧ R 268 ≤ g % 100), R)
  else (0, R)
theorem scs_01 {R : Int → Int} {g : Int} : (scs R g).1 = 0 ∨ (scs R g).1 = 1 := by
  unfold scs
  repeat' split
  all_goals first | exact b2i_in | exact Or.inl rfl | exact Or.inr rfl
theorem scs_inv {R : Int → Int} (i : inv R) (g : Int) : inv (scs R g).2 := by
  unfold scs
  repeat' split
  all_goals first | exact i | exact inv_te i | exact aSk_inv i _ | exact aLi_inv i _ _ | exact aAw_inv i _ (Or.inl rfl) | exact aAw_inv i _ (Or.inr rfl) | exact aFe_inv i _ (Or.inl rfl) | exact aFe_inv i _ (Or.inr rfl) | exact aAw_inv i _ (by split <;> simp) | exact aFe_inv i _ (by split <;> simp)
theorem c_79 {h : am_H} {q : Nat} {R : Int → Int} (hH : Herd h q R) (i : inv R) {z : Int} (h1 : 0 ≤ z) (h2 : z < 100000) : am_X 55 79 0 (am_ent 79 [.ref q, .int (iI z)]) [] h (fun r h' => rI r (scs R z).1 ∧ Herd h' q (scs R z).2 ∧ fr (HS q) h h') := by
  show am_X 55 79 0 [.ref q, .int (iI z), am_u, am_u, am_u, am_u, am_u] [] h _
  refine ax_aload_n f79_0 rfl ?_
  refine ax_getf f79_1 hH.1 rfl ?_
  refine ax_astore_n (ls' := [_, _, _, _, _, _, _]) f79_4 (Nat.le_of_ble_eq_true rfl) rfl ?_
  refine ax_iload_n f79_5 rfl ?_
  refine ax_bipush f79_6 ?_
  refine ax_idiv f79_8 (by omega) (by omega) (by omega) (by omega) ?_
  refine ax_bipush f79_9 ?_
  refine ax_irem f79_11 (by omega) (by omega) (by omega) (by omega) ?_
  refine ax_istore_n (ls' := [_, _, _, _, _, _, _]) f79_12 (Nat.le_of_ble_eq_true rfl) rfl ?_
  refine ax_iload_n f79_13 rfl ?_
  refine ax_bipush f79_14 ?_
  refine ax_idiv f79_16 (by omega) (by omega) (by omega) (by omega) ?_
  refine ax_bipush f79_17 ?_
  refine ax_irem f79_19 (by omega) (by omega) (by omega) (by omega) ?_
  refine ax_istore (ls' := [_, _, _, _, _, _, _]) f79_20 (Nat.le_of_ble_eq_true rfl) rfl ?_
  refine ax_iload_n f79_22 rfl ?_
  refine ax_bipush f79_23 ?_
  refine ax_irem f79_25 (by omega) (by omega) (by omega) (by omega) ?_
  refine ax_istore (ls' := [_, _, _, _, _, _, _]) f79_26 (Nat.le_of_ble_eq_true rfl) rfl ?_
  refine ax_iload_n f79_28 rfl ?_
  refine ax_bipush f79_29 ?_
  refine ax_irem f79_31 (by omega) (by omega) (by omega) (by omega) ?_
  refine ax_istore (ls' := [_, _, _, _, _, _, _]) f79_32 (Nat.le_of_ble_eq_true rfl) rfl ?_
  refine ax_iload_n f79_34 rfl ?_
  refine ax_sipush f79_35 ?_
  refine ax_idiv f79_38 (by omega) (by omega) (by omega) (by omega) ?_
  rcases (show z / 10000 = 1 ∨ z / 10000 = 2 ∨ z / 10000 = 3 ∨ z / 10000 = 4 ∨ z / 10000 = 5 ∨ z / 10000 = 6 ∨ z / 10000 = 7 ∨ z / 10000 = 8 ∨ z / 10000 = 9 ∨ z / 10000 = 0 by omega) with hc | hc | hc | hc | hc | hc | hc | hc | hc | hc
  · refine ax_nmI hc ?_
    refine ax_tswI f79_39 ⟨by omega, by omega⟩ (by omega) (by omega) rfl rfl ?_
    refine ax_iload f79_88 rfl ?_
    refine ax_iconst f79_90 ?_
    refine ax_icmp_ge f79_91 rfl ⟨by omega, by omega⟩ ⟨by omega, by omega⟩ (fun q91 => ?_) (fun q91 => ?_)
    · refine ax_iconst f79_117 ?_
      refine ax_ireturn f79_118 rfl rfl ?_
      have eR : scs R z = (0, R) := by
        unfold scs
        rw [if_pos hc, if_neg (by omega)]
      rw [eR]
      exact ⟨rI_of rfl, hH, fr_rf⟩
    · refine ax_aload_n f79_94 rfl ?_
      refine ax_iload_n f79_95 rfl ?_
      refine ax_iload f79_96 rfl ?_
      refine ax_iconst f79_98 ?_
      refine ax_icmp_ne f79_99 rfl ⟨by omega, by omega⟩ ⟨by omega, by omega⟩ (fun q99 => ?_) (fun q99 => ?_)
      · refine ax_iconst f79_106 ?_
        refine ax_cvI (rest := []) f79_107 hH.1 rfl rfl rfl rfl rfl rfl rfl rfl (c_30 hH i ⟨by omega, by omega⟩ (Or.inl rfl)) ?_
        rintro h9 ⟨H9, f9⟩
        refine ax_if_eq f79_110 rfl b2i_inI (fun q110 => ?_) (fun q110 => ?_)
        · refine ax_iconst f79_117 ?_
          refine ax_ireturn f79_118 rfl rfl ?_
          have eR : scs R z = (b2i (0 ≤ z / 100 % 100 ∧ z / 100 % 100 < 48), aAw R (z / 100 % 100) 0) := by
            unfold scs
            rw [if_pos hc, if_pos (by omega), if_neg (c := z % 10 = 1) (by omega)]
          rw [eR]
          exact ⟨rI_of q110.symm, H9, f9⟩
        · refine ax_iconst f79_113 ?_
          refine ax_goto f79_114 rfl ?_
          refine ax_ireturn f79_118 rfl rfl ?_
          have eR : scs R z = (b2i (0 ≤ z / 100 % 100 ∧ z / 100 % 100 < 48), aAw R (z / 100 % 100) 0) := by
            unfold scs
            rw [if_pos hc, if_pos (by omega), if_neg (c := z % 10 = 1) (by omega)]
          rw [eR]
          exact ⟨rI_of (by have := b2i_t (b2i_nz.mp q110); omega), H9, f9⟩
      · refine ax_iconst f79_102 ?_
        refine ax_goto f79_103 rfl ?_
        refine ax_cvI (rest := []) f79_107 hH.1 rfl rfl rfl rfl rfl rfl rfl rfl (c_30 hH i ⟨by omega, by omega⟩ (Or.inr rfl)) ?_
        rintro h9 ⟨H9, f9⟩
        refine ax_if_eq f79_110 rfl b2i_inI (fun q110 => ?_) (fun q110 => ?_)
        · refine ax_iconst f79_117 ?_
          refine ax_ireturn f79_118 rfl rfl ?_
          have eR : scs R z = (b2i (0 ≤ z / 100 % 100 ∧ z / 100 % 100 < 48), aAw R (z / 100 % 100) 1) := by
            unfold scs
            rw [if_pos hc, if_pos (by omega), if_pos (c := z % 10 = 1) (by omega)]
          rw [eR]
          exact ⟨rI_of q110.symm, H9, f9⟩
        · refine ax_iconst f79_113 ?_
          refine ax_goto f79_114 rfl ?_
          refine ax_ireturn f79_118 rfl rfl ?_
          have eR : scs R z = (b2i (0 ≤ z / 100 % 100 ∧ z / 100 % 100 < 48), aAw R (z / 100 % 100) 1) := by
            unfold scs
            rw [if_pos hc, if_pos (by omega), if_pos (c := z % 10 = 1) (by omega)]
          rw [eR]
          exact ⟨rI_of (by have := b2i_t (b2i_nz.mp q110); omega), H9, f9⟩
  · refine ax_nmI hc ?_
    refine ax_tswI f79_39 ⟨by omega, by omega⟩ (by omega) (by omega) rfl rfl ?_
    refine ax_iload f79_119 rfl ?_
    refine ax_iconst f79_121 ?_
    refine ax_icmp_ge f79_122 rfl ⟨by omega, by omega⟩ ⟨by omega, by omega⟩ (fun q122 => ?_) (fun q122 => ?_)
    · refine ax_iconst f79_148 ?_
      refine ax_ireturn f79_149 rfl rfl ?_
      have eR : scs R z = (0, R) := by
        unfold scs
        rw [if_neg (by omega), if_pos hc, if_neg (by omega)]
      rw [eR]
      exact ⟨rI_of rfl, hH, fr_rf⟩
    · refine ax_aload_n f79_125 rfl ?_
      refine ax_iload_n f79_126 rfl ?_
      refine ax_iload f79_127 rfl ?_
      refine ax_iconst f79_129 ?_
      refine ax_icmp_ne f79_130 rfl ⟨by omega, by omega⟩ ⟨by omega, by omega⟩ (fun q130 => ?_) (fun q130 => ?_)
      · refine ax_iconst f79_137 ?_
        refine ax_cvI (rest := []) f79_138 hH.1 rfl rfl rfl rfl rfl rfl rfl rfl (c_31 hH i ⟨by omega, by omega⟩ (Or.inl rfl)) ?_
        rintro h9 ⟨H9, f9⟩
        refine ax_if_eq f79_141 rfl b2i_inI (fun q141 => ?_) (fun q141 => ?_)
        · refine ax_iconst f79_148 ?_
          refine ax_ireturn f79_149 rfl rfl ?_
          have eR : scs R z = (b2i ((1 ≤ z / 100 % 100 ∧ z / 100 % 100 < 48) ∧ ((0 : Int) = 0 ∨ R (144 + z / 100 % 100) = 1 ∨ blk R ≤ 11)), aFe R (z / 100 % 100) 0) := by
            unfold scs
            rw [if_neg (by omega), if_pos hc, if_pos (by omega), if_neg (c := z % 10 = 1) (by omega)]
          rw [eR]
          exact ⟨rI_of q141.symm, H9, f9⟩
        · refine ax_iconst f79_144 ?_
          refine ax_goto f79_145 rfl ?_
          refine ax_ireturn f79_149 rfl rfl ?_
          have eR : scs R z = (b2i ((1 ≤ z / 100 % 100 ∧ z / 100 % 100 < 48) ∧ ((0 : Int) = 0 ∨ R (144 + z / 100 % 100) = 1 ∨ blk R ≤ 11)), aFe R (z / 100 % 100) 0) := by
            unfold scs
            rw [if_neg (by omega), if_pos hc, if_pos (by omega), if_neg (c := z % 10 = 1) (by omega)]
          rw [eR]
          exact ⟨rI_of (by have := b2i_t (b2i_nz.mp q141); omega), H9, f9⟩
      · refine ax_iconst f79_133 ?_
        refine ax_goto f79_134 rfl ?_
        refine ax_cvI (rest := []) f79_138 hH.1 rfl rfl rfl rfl rfl rfl rfl rfl (c_31 hH i ⟨by omega, by omega⟩ (Or.inr rfl)) ?_
        rintro h9 ⟨H9, f9⟩
        refine ax_if_eq f79_141 rfl b2i_inI (fun q141 => ?_) (fun q141 => ?_)
        · refine ax_iconst f79_148 ?_
          refine ax_ireturn f79_149 rfl rfl ?_
          have eR : scs R z = (b2i ((1 ≤ z / 100 % 100 ∧ z / 100 % 100 < 48) ∧ ((1 : Int) = 0 ∨ R (144 + z / 100 % 100) = 1 ∨ blk R ≤ 11)), aFe R (z / 100 % 100) 1) := by
            unfold scs
            rw [if_neg (by omega), if_pos hc, if_pos (by omega), if_pos (c := z % 10 = 1) (by omega)]
          rw [eR]
          exact ⟨rI_of q141.symm, H9, f9⟩
        · refine ax_iconst f79_144 ?_
          refine ax_goto f79_145 rfl ?_
          refine ax_ireturn f79_149 rfl rfl ?_
          have eR : scs R z = (b2i ((1 ≤ z / 100 % 100 ∧ z / 100 % 100 < 48) ∧ ((1 : Int) = 0 ∨ R (144 + z / 100 % 100) = 1 ∨ blk R ≤ 11)), aFe R (z / 100 % 100) 1) := by
            unfold scs
            rw [if_neg (by omega), if_pos hc, if_pos (by omega), if_pos (c := z % 10 = 1) (by omega)]
          rw [eR]
          exact ⟨rI_of (by have := b2i_t (b2i_nz.mp q141); omega), H9, f9⟩
  · refine ax_nmI hc ?_
    refine ax_tswI f79_39 ⟨by omega, by omega⟩ (by omega) (by omega) rfl rfl ?_
    refine ax_iload f79_150 rfl ?_
    refine ax_if_ne f79_152 rfl ⟨by omega, by omega⟩ (fun q152 => ?_) (fun q152 => ?_)
    · refine ax_iconst f79_171 ?_
      refine ax_ireturn f79_172 rfl rfl ?_
      have eR : scs R z = (0, R) := by
        unfold scs
        rw [if_neg (by omega), if_neg (by omega), if_pos hc, if_neg (by omega)]
      rw [eR]
      exact ⟨rI_of rfl, hH, fr_rf⟩
    · refine ax_aload_n f79_155 rfl ?_
      refine ax_iload_n f79_156 rfl ?_
      refine ax_iload f79_157 rfl ?_
      refine ax_iconst f79_159 ?_
      refine ax_isub f79_160 ?_
      refine ax_cvI (rest := []) f79_161 hH.1 rfl rfl rfl rfl rfl rfl rfl rfl (c_33 hH i ⟨by omega, by omega⟩ ⟨by omega, by omega⟩) ?_
      rintro h9 ⟨H9, f9⟩
      refine ax_if_eq f79_164 rfl b2i_inI (fun q164 => ?_) (fun q164 => ?_)
      · refine ax_iconst f79_171 ?_
        refine ax_ireturn f79_172 rfl rfl ?_
        have eR : scs R z = (b2i ((0 ≤ z / 100 % 100 ∧ z / 100 % 100 < blk R) ∧ (-2 ≤ z % 10 - 2 ∧ z % 10 - 2 ≤ 2)), aLi R (z / 100 % 100) (z % 10 - 2)) := by
          unfold scs
          rw [if_neg (by omega), if_neg (by omega), if_pos hc, if_pos (by omega)]
        rw [eR]
        exact ⟨rI_of q164.symm, H9, f9⟩
      · refine ax_iconst f79_167 ?_
        refine ax_goto f79_168 rfl ?_
        refine ax_ireturn f79_172 rfl rfl ?_
        have eR : scs R z = (b2i ((0 ≤ z / 100 % 100 ∧ z / 100 % 100 < blk R) ∧ (-2 ≤ z % 10 - 2 ∧ z % 10 - 2 ≤ 2)), aLi R (z / 100 % 100) (z % 10 - 2)) := by
          unfold scs
          rw [if_neg (by omega), if_neg (by omega), if_pos hc, if_pos (by omega)]
        rw [eR]
        exact ⟨rI_of (by have := b2i_t (b2i_nz.mp q164); omega), H9, f9⟩
  · refine ax_nmI hc ?_
    refine ax_tswI f79_39 ⟨by omega, by omega⟩ (by omega) (by omega) rfl rfl ?_
    refine ax_iload_n f79_173 rfl ?_
    refine ax_if_ne f79_174 rfl ⟨by omega, by omega⟩ (fun q174 => ?_) (fun q174 => ?_)
    · refine ax_iconst f79_193 ?_
      refine ax_ireturn f79_194 rfl rfl ?_
      have eR : scs R z = (0, R) := by
        unfold scs
        rw [if_neg (by omega), if_neg (by omega), if_neg (by omega), if_pos hc, if_neg (by omega)]
      rw [eR]
      exact ⟨rI_of rfl, hH, fr_rf⟩
    · refine ax_iload f79_177 rfl ?_
      refine ax_if_ne f79_179 rfl ⟨by omega, by omega⟩ (fun q179 => ?_) (fun q179 => ?_)
      · refine ax_iconst f79_193 ?_
        refine ax_ireturn f79_194 rfl rfl ?_
        have eR : scs R z = (0, R) := by
          unfold scs
          rw [if_neg (by omega), if_neg (by omega), if_neg (by omega), if_pos hc, if_neg (by omega)]
        rw [eR]
        exact ⟨rI_of rfl, hH, fr_rf⟩
      · refine ax_aload_n f79_182 rfl ?_
        refine ax_cvI (rest := []) f79_183 hH.1 rfl rfl rfl rfl rfl rfl rfl rfl (c_34 hH i) ?_
        rintro h9 ⟨H9, f9⟩
        refine ax_if_eq f79_186 rfl ⟨by omega, by omega⟩ (fun q186 => absurd q186 (by omega)) (fun q186 => ?_)
        refine ax_iconst f79_189 ?_
        refine ax_goto f79_190 rfl ?_
        refine ax_ireturn f79_194 rfl rfl ?_
        have eR : scs R z = (1, tel R) := by
          unfold scs
          rw [if_neg (by omega), if_neg (by omega), if_neg (by omega), if_pos hc, if_pos (by omega)]
        rw [eR]
        exact ⟨rI_of rfl, H9, f9⟩
  · refine ax_nmI hc ?_
    refine ax_tswI f79_39 ⟨by omega, by omega⟩ (by omega) (by omega) rfl rfl ?_
    refine ax_iload_n f79_195 rfl ?_
    refine ax_if_ne f79_196 rfl ⟨by omega, by omega⟩ (fun q196 => ?_) (fun q196 => ?_)
    · refine ax_iconst f79_217 ?_
      refine ax_ireturn f79_218 rfl rfl ?_
      have eR : scs R z = (0, R) := by
        unfold scs
        rw [if_neg (by omega), if_neg (by omega), if_neg (by omega), if_neg (by omega), if_pos hc, if_neg (by omega)]
      rw [eR]
      exact ⟨rI_of rfl, hH, fr_rf⟩
    · refine ax_iload f79_199 rfl ?_
      refine ax_if_ne f79_201 rfl ⟨by omega, by omega⟩ (fun q201 => ?_) (fun q201 => ?_)
      · refine ax_iconst f79_217 ?_
        refine ax_ireturn f79_218 rfl rfl ?_
        have eR : scs R z = (0, R) := by
          unfold scs
          rw [if_neg (by omega), if_neg (by omega), if_neg (by omega), if_neg (by omega), if_pos hc, if_neg (by omega)]
        rw [eR]
        exact ⟨rI_of rfl, hH, fr_rf⟩
      · refine ax_aload_n f79_204 rfl ?_
        refine ax_iload f79_205 rfl ?_
        refine ax_cvI (rest := []) f79_207 hH.1 rfl rfl rfl rfl rfl rfl rfl rfl (c_35 hH i ⟨by omega, by omega⟩) ?_
        rintro h9 ⟨H9, f9⟩
        refine ax_if_eq f79_210 rfl b2i_inI (fun q210 => ?_) (fun q210 => ?_)
        · refine ax_iconst f79_217 ?_
          refine ax_ireturn f79_218 rfl rfl ?_
          have eR : scs R z = (b2i ((0 ≤ z % 10 ∧ z % 10 < 3) ∧ (R 192 = 1 ∨ R 269 = 0)), aSk R (z % 10)) := by
            unfold scs
            rw [if_neg (by omega), if_neg (by omega), if_neg (by omega), if_neg (by omega), if_pos hc, if_pos (by omega)]
          rw [eR]
          exact ⟨rI_of q210.symm, H9, f9⟩
        · refine ax_iconst f79_213 ?_
          refine ax_goto f79_214 rfl ?_
          refine ax_ireturn f79_218 rfl rfl ?_
          have eR : scs R z = (b2i ((0 ≤ z % 10 ∧ z % 10 < 3) ∧ (R 192 = 1 ∨ R 269 = 0)), aSk R (z % 10)) := by
            unfold scs
            rw [if_neg (by omega), if_neg (by omega), if_neg (by omega), if_neg (by omega), if_pos hc, if_pos (by omega)]
          rw [eR]
          exact ⟨rI_of (by have := b2i_t (b2i_nz.mp q210); omega), H9, f9⟩
  · refine ax_nmI hc ?_
    refine ax_tswI f79_39 ⟨by omega, by omega⟩ (by omega) (by omega) rfl rfl ?_
    refine ax_aload_n f79_219 rfl ?_
    refine ax_getf f79_220 hH.2.1.1 rfl ?_
    refine ax_iload_n f79_223 rfl ?_
    refine ax_sipush f79_224 ?_
    refine ax_irem f79_227 (by omega) (by omega) (by omega) (by omega) ?_
    obtain ⟨k1, k2⟩ := i.lk
    refine ax_icmp_gt f79_228 rfl ⟨by omega, by omega⟩ ⟨by omega, by omega⟩ (fun q228 => ?_) (fun q228 => ?_)
    · refine ax_iconst f79_235 ?_
      refine ax_ireturn f79_236 rfl rfl ?_
      have eR : scs R z = (b2i (R 217 ≤ z % 10000), R) := by
        unfold scs
        rw [if_neg (by omega), if_neg (by omega), if_neg (by omega), if_neg (by omega), if_neg (by omega), if_pos hc]
      rw [eR]
      exact ⟨rI_of (b2i_f (by omega)).symm, hH, fr_rf⟩
    · refine ax_iconst f79_231 ?_
      refine ax_goto f79_232 rfl ?_
      refine ax_ireturn f79_236 rfl rfl ?_
      have eR : scs R z = (b2i (R 217 ≤ z % 10000), R) := by
        unfold scs
        rw [if_neg (by omega), if_neg (by omega), if_neg (by omega), if_neg (by omega), if_neg (by omega), if_pos hc]
      rw [eR]
      exact ⟨rI_of (b2i_t (by omega)).symm, hH, fr_rf⟩
  · refine ax_nmI hc ?_
    refine ax_tswI f79_39 ⟨by omega, by omega⟩ (by omega) (by omega) rfl rfl ?_
    refine ax_iload f79_237 rfl ?_
    refine ax_if_ne f79_239 rfl ⟨by omega, by omega⟩ (fun q239 => ?_) (fun q239 => ?_)
    · refine ax_iconst f79_266 ?_
      refine ax_ireturn f79_267 rfl rfl ?_
      have eR : scs R z = (b2i (z / 10 % 10 = 0 ∧ (0 ≤ z / 100 % 100 ∧ z / 100 % 100 < 48) ∧ R (218 + z / 100 % 100) = z % 10), R) := by
        unfold scs
        rw [if_neg (by omega), if_neg (by omega), if_neg (by omega), if_neg (by omega), if_neg (by omega), if_neg (by omega), if_pos hc]
      rw [eR]
      exact ⟨rI_of (b2i_f (by omega)).symm, hH, fr_rf⟩
    · refine ax_iload_n f79_242 rfl ?_
      refine ax_csI (rest := []) f79_243 (Or.inr (Or.inl rfl)) rfl rfl rfl rfl rfl rfl (c_134 ⟨by omega, by omega⟩) ?_
      intro _ e_
      obtain rfl := e_.symm
      clear e_
      refine ax_if_eq f79_246 rfl b2i_inI (fun q246 => ?_) (fun q246 => ?_)
      · refine ax_iconst f79_266 ?_
        refine ax_ireturn f79_267 rfl rfl ?_
        have eR : scs R z = (b2i (z / 10 % 10 = 0 ∧ (0 ≤ z / 100 % 100 ∧ z / 100 % 100 < 48) ∧ R (218 + z / 100 % 100) = z % 10), R) := by
          unfold scs
          rw [if_neg (by omega), if_neg (by omega), if_neg (by omega), if_neg (by omega), if_neg (by omega), if_neg (by omega), if_pos hc]
        rw [eR]
        exact ⟨rI_of (b2i_f (fun x => b2i_z.mp q246 x.2.1)).symm, hH, fr_rf⟩
      · refine ax_aload_n f79_249 rfl ?_
        refine ax_getf f79_250 hH.2.1.1 rfl ?_
        refine ax_iload_n f79_253 rfl ?_
        refine ax_csI (rest := []) f79_254 (Or.inr (Or.inl rfl)) rfl rfl rfl rfl rfl rfl (c_bit (b2i_nz.mp q246).1 (b2i_nz.mp q246).2 (i.tk (b2i_nz.mp q246).1 (b2i_nz.mp q246).2)) ?_
        intro _ e_
        obtain rfl := e_.symm
        clear e_
        have htk := i.tk (b2i_nz.mp q246).1 (b2i_nz.mp q246).2
        refine ax_iload f79_257 rfl ?_
        refine ax_icmp_ne f79_259 rfl ⟨by omega, by omega⟩ ⟨by omega, by omega⟩ (fun q259 => ?_) (fun q259 => ?_)
        · refine ax_iconst f79_266 ?_
          refine ax_ireturn f79_267 rfl rfl ?_
          have eR : scs R z = (b2i (z / 10 % 10 = 0 ∧ (0 ≤ z / 100 % 100 ∧ z / 100 % 100 < 48) ∧ R (218 + z / 100 % 100) = z % 10), R) := by
            unfold scs
            rw [if_neg (by omega), if_neg (by omega), if_neg (by omega), if_neg (by omega), if_neg (by omega), if_neg (by omega), if_pos hc]
          rw [eR]
          exact ⟨rI_of (b2i_f (fun x => q259 x.2.2)).symm, hH, fr_rf⟩
        · refine ax_iconst f79_262 ?_
          refine ax_goto f79_263 rfl ?_
          refine ax_ireturn f79_267 rfl rfl ?_
          have eR : scs R z = (b2i (z / 10 % 10 = 0 ∧ (0 ≤ z / 100 % 100 ∧ z / 100 % 100 < 48) ∧ R (218 + z / 100 % 100) = z % 10), R) := by
            unfold scs
            rw [if_neg (by omega), if_neg (by omega), if_neg (by omega), if_neg (by omega), if_neg (by omega), if_neg (by omega), if_pos hc]
          rw [eR]
          exact ⟨rI_of (b2i_t ⟨by omega, b2i_nz.mp q246, Decidable.not_not.mp q259⟩).symm, hH, fr_rf⟩
  · refine ax_nmI hc ?_
    refine ax_tswI f79_39 ⟨by omega, by omega⟩ (by omega) (by omega) rfl rfl ?_
    refine ax_aload_n f79_268 rfl ?_
    refine ax_iload_n f79_269 rfl ?_
    refine ax_cvI (rest := []) f79_270 hH.2.1.1 rfl rfl rfl rfl rfl rfl rfl rfl (c_49 hH.2.1 i.ff i.b12 ⟨by omega, by omega⟩) ?_
    intro _ e_
    obtain rfl := e_.symm
    clear e_
    refine ax_if_eq f79_273 rfl b2i_inI (fun q273 => ?_) (fun q273 => ?_)
    · refine ax_iconst f79_298 ?_
      refine ax_ireturn f79_299 rfl rfl ?_
      have eR : scs R z = (b2i ((0 ≤ z / 100 % 100 ∧ z / 100 % 100 < blk R) ∧ z % 100 ≤ fro R (z / 100 % 100 + 1) - fro R (z / 100 % 100)), R) := by
        unfold scs
        rw [if_neg (by omega), if_neg (by omega), if_neg (by omega), if_neg (by omega), if_neg (by omega), if_neg (by omega), if_neg (by omega), if_pos hc]
      rw [eR]
      exact ⟨rI_of (b2i_f (fun x => b2i_z.mp q273 x.1)).symm, hH, fr_rf⟩
    · have hb12 := i.b12
      refine ax_aload_n f79_276 rfl ?_
      refine ax_iload_n f79_277 rfl ?_
      refine ax_iconst f79_278 ?_
      refine ax_iadd f79_279 ?_
      refine ax_cvI (rest := []) f79_280 hH.2.1.1 rfl rfl rfl rfl rfl rfl rfl rfl (c_50 hH.2.1 i.ff (by omega) (by have := (b2i_nz.mp q273).2; omega)) ?_
      intro _ e_
      obtain rfl := e_.symm
      clear e_
      refine ax_aload_n f79_283 rfl ?_
      refine ax_iload_n f79_284 rfl ?_
      refine ax_cvI (rest := [_]) f79_285 hH.2.1.1 rfl rfl rfl rfl rfl rfl rfl rfl (c_50 hH.2.1 i.ff (by omega) (by have := (b2i_nz.mp q273).2; omega)) ?_
      intro _ e_
      obtain rfl := e_.symm
      clear e_
      have b1 := fro_sp i.ff (z / 100 % 100)
      have b2 := fro_sp i.ff (z / 100 % 100 + 1)
      obtain ⟨b1, b1b, _⟩ := b1
      obtain ⟨b2, b2b, _⟩ := b2
      refine ax_isub f79_288 ?_
      refine ax_iload f79_289 rfl ?_
      refine ax_icmp_lt f79_291 rfl ⟨by omega, by omega⟩ ⟨by omega, by omega⟩ (fun q291 => ?_) (fun q291 => ?_)
      · refine ax_iconst f79_298 ?_
        refine ax_ireturn f79_299 rfl rfl ?_
        have eR : scs R z = (b2i ((0 ≤ z / 100 % 100 ∧ z / 100 % 100 < blk R) ∧ z % 100 ≤ fro R (z / 100 % 100 + 1) - fro R (z / 100 % 100)), R) := by
          unfold scs
          rw [if_neg (by omega), if_neg (by omega), if_neg (by omega), if_neg (by omega), if_neg (by omega), if_neg (by omega), if_neg (by omega), if_pos hc]
        rw [eR]
        exact ⟨rI_of (b2i_f (fun x => by omega)).symm, hH, fr_rf⟩
      · refine ax_iconst f79_294 ?_
        refine ax_goto f79_295 rfl ?_
        refine ax_ireturn f79_299 rfl rfl ?_
        have eR : scs R z = (b2i ((0 ≤ z / 100 % 100 ∧ z / 100 % 100 < blk R) ∧ z % 100 ≤ fro R (z / 100 % 100 + 1) - fro R (z / 100 % 100)), R) := by
          unfold scs
          rw [if_neg (by omega), if_neg (by omega), if_neg (by omega), if_neg (by omega), if_neg (by omega), if_neg (by omega), if_neg (by omega), if_pos hc]
        rw [eR]
        exact ⟨rI_of (b2i_t ⟨b2i_nz.mp q273, by omega⟩).symm, hH, fr_rf⟩
  · refine ax_nmI hc ?_
    refine ax_tswI f79_39 ⟨by omega, by omega⟩ (by omega) (by omega) rfl rfl ?_
    refine ax_iload_n f79_300 rfl ?_
    refine ax_if_ne f79_301 rfl ⟨by omega, by omega⟩ (fun q301 => ?_) (fun q301 => ?_)
    · refine ax_iconst f79_317 ?_
      refine ax_ireturn f79_318 rfl rfl ?_
      have eR : scs R z = (b2i (z / 100 % 100 = 0 ∧ R 268 ≤ z % 100), R) := by
        unfold scs
        rw [if_neg (by omega), if_neg (by omega), if_neg (by omega), if_neg (by omega), if_neg (by omega), if_neg (by omega), if_neg (by omega), if_neg (by omega), if_pos hc]
      rw [eR]
      exact ⟨rI_of (b2i_f (by omega)).symm, hH, fr_rf⟩
    · refine ax_aload_n f79_304 rfl ?_
      refine ax_getf f79_305 hH.2.1.1 rfl ?_
      obtain ⟨k1, k2⟩ := i.mi
      refine ax_iload f79_308 rfl ?_
      refine ax_icmp_gt f79_310 rfl ⟨by omega, by omega⟩ ⟨by omega, by omega⟩ (fun q310 => ?_) (fun q310 => ?_)
      · refine ax_iconst f79_317 ?_
        refine ax_ireturn f79_318 rfl rfl ?_
        have eR : scs R z = (b2i (z / 100 % 100 = 0 ∧ R 268 ≤ z % 100), R) := by
          unfold scs
          rw [if_neg (by omega), if_neg (by omega), if_neg (by omega), if_neg (by omega), if_neg (by omega), if_neg (by omega), if_neg (by omega), if_neg (by omega), if_pos hc]
        rw [eR]
        exact ⟨rI_of (b2i_f (by omega)).symm, hH, fr_rf⟩
      · refine ax_iconst f79_313 ?_
        refine ax_goto f79_314 rfl ?_
        refine ax_ireturn f79_318 rfl rfl ?_
        have eR : scs R z = (b2i (z / 100 % 100 = 0 ∧ R 268 ≤ z % 100), R) := by
          unfold scs
          rw [if_neg (by omega), if_neg (by omega), if_neg (by omega), if_neg (by omega), if_neg (by omega), if_neg (by omega), if_neg (by omega), if_neg (by omega), if_pos hc]
        rw [eR]
        exact ⟨rI_of (b2i_t (by omega)).symm, hH, fr_rf⟩
  · refine ax_nmI hc ?_
    refine ax_tswO f79_39 ⟨by omega, by omega⟩ (by omega) rfl ?_
    refine ax_iconst f79_319 ?_
    refine ax_ireturn f79_320 rfl rfl ?_
    have eR : scs R z = (0, R) := by
      unfold scs
      rw [if_neg (by omega), if_neg (by omega), if_neg (by omega), if_neg (by omega), if_neg (by omega), if_neg (by omega), if_neg (by omega), if_neg (by omega), if_neg (by omega)]
    rw [eR]
    exact ⟨rI_of rfl, hH, fr_rf⟩
end SIM
