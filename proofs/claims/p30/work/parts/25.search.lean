/-! ===== searches: the class ===== -/
section SRC
theorem ble_rf (n : Nat) : Nat.ble n n = true := Nat.ble_eq_true_of_le (Nat.le_refl n)
theorem sr_1 {R : Int → Int} {w : Int} {f : Nat} {a b lack lk : Int} {F : Int → Int} (c1 : lack = bok R a b) : sr R w (f + 1) a b lack lk F = (lk, fun j => if a ≤ j ∧ j < b then 1 else F j) := by
  show (if lack = bok R a b then _ else _) = _
  rw [if_pos c1]
theorem sr_2 {R : Int → Int} {w : Int} {f : Nat} {a b lack lk : Int} {F : Int → Int} (c1 : ¬ lack = bok R a b) (c2 : b - a = 1) : sr R w (f + 1) a b lack lk F = (lk + 1, if R (48 + a) = 1 then uZ F a 1 else F) := by
  show (if lack = bok R a b then _ else if b - a = 1 then _ else _) = _
  rw [if_neg c1, if_pos c2]
/-- a search object: s, its halving s + 1, its sums s + 2 -/
def Sob (h : am_H) (s p : Nat) (lk : Int) (F : Int → Int) : Prop := h.1[s]? = some (.inr (5, [.ref (s + 1), .ref p, .int (iI lk), .long (lB F)]))
theorem Sob.eq {h : am_H} {s p : Nat} {lk lk' : Int} {F F' : Int → Int} (o : Sob h s p lk F) (e1 : lk' = lk) (e2 : ∀ j, 0 ≤ j → j < 48 → (F' j = 1 ↔ F j = 1)) : Sob h s p lk' F' := by
  unfold Sob at *
  rw [e1, lB_cong e2]
  exact o
theorem c_83 {h : am_H} {a b : Int} (h1 : 0 ≤ a) (h2 : a < b) (h3 : b ≤ 48) : am_X 0 83 0 (am_ent 83 [.int (iI a), .int (iI b)]) [] h (fun r h' => rL r (lB fun j => if a ≤ j ∧ j < b then 1 else 0) ∧ h' = h) := by
  show am_X 0 83 0 [.int (iI a), .int (iI b)] [] h _
  refine ax_lconst f83_0 ?_
  refine ax_iload_n f83_1 rfl ?_
  refine ax_lshl f83_2 ?_
  refine ax_lconst f83_3 ?_
  refine ax_iload_n f83_4 rfl ?_
  refine ax_lshl f83_5 ?_
  refine ax_lsub f83_6 ?_
  refine ax_lreturn f83_7 rfl ?_
  refine ⟨rL_of ?_, rfl⟩
  exact lB_seg h1 (by omega) h3
theorem c_82 {s p : Nat} {R : Int → Int} {w : Int} (i : inv R) (hd : s + 2 < p ∨ p + 4 < s) (hw : w = 0 ∨ w = 1 ∨ w = 2) : ∀ (f : Nat) {h : am_H} {a b lack dp lk : Int} {F : Int → Int}, Mead h p R → Hlv h (s + 1) (vl R w) → Sob h s p lk F → 0 ≤ a → a < b → b ≤ 48 → b - a ≤ f → 0 ≤ dp → dp + (b - a) ≤ 48 → 0 < lack → lack ≤ 10000 →
    am_X (f + 4) 82 0 (am_ent 82 [.ref s, .int (iI a), .int (iI b), .int (iI lack), .int (iI dp)]) [] h (fun r h' => rV r ∧ Sob h' s p (sr R w f a b lack lk F).1 (sr R w f a b lack lk F).2 ∧ fr (fun q => q = s) h h')
  | 0, h, a, b, lack, dp, lk, F, hM, hH, o, y1, y2, y3, y4, y5, y6, y7, y8 => by omega
  | f + 1, h, a, b, lack, dp, lk, F, hM, hH, o, y1, y2, y3, y4, y5, y6, y7, y8 => by
    have hvl := vl_ival i w
    have hbok := bok_in i.1.1 (a := a) (b := b) y1 (by omega) y3
    show am_X (f + 1 + 4) 82 0 [.ref s, .int (iI a), .int (iI b), .int (iI lack), .int (iI dp), am_u, am_u, am_u] [] h _
    refine ax_aload_n f82_0 rfl ?_
    refine ax_getf f82_1 o rfl ?_
    refine ax_astore (ls' := [_, _, _, _, _, _, _, _]) f82_4 (Nat.le_of_ble_eq_true rfl) rfl ?_
    refine ax_aload f82_6 rfl ?_
    refine ax_ifnull f82_8 ?_
    refine ax_iload f82_11 rfl ?_
    refine ax_bipush f82_13 ?_
    refine ax_icmp_ge f82_15 rfl ⟨by omega, by omega⟩ ⟨by omega, by omega⟩ (fun q15 => absurd q15 (by omega)) (fun q15 => ?_)
    refine ax_iload_n f82_18 rfl ?_
    refine ax_iload_n f82_19 rfl ?_
    refine ax_icmp_lt f82_20 rfl ⟨by omega, by omega⟩ ⟨by omega, by omega⟩ (fun q20 => ?_) (fun q20 => absurd q20 (by omega))
    refine ax_iload_n f82_24 rfl ?_
    refine ax_aload f82_25 rfl ?_
    refine ax_iload_n f82_27 rfl ?_
    refine ax_iload_n f82_28 rfl ?_
    refine ax_cvI (rest := [_]) f82_29 hM.1 rfl rfl rfl rfl rfl rfl rfl rfl (c_52 hM y1 (by omega) y3) ?_
    intro _ e_
    obtain rfl := e_.symm
    clear e_
    refine ax_icmp_ne f82_32 rfl ⟨by omega, by omega⟩ ⟨by omega, by omega⟩ (fun q32 => ?_) (fun q32 => ?_)
    · refine ax_aload_n f82_50 rfl ?_
      refine ax_dup f82_51 rfl ?_
      refine ax_getf f82_52 o rfl ?_
      refine ax_iconst f82_55 ?_
      refine ax_iadd f82_56 ?_
      refine ax_putfO f82_57 (by assumption) rfl rfl rfl rfl (fun h1 o1 r1 => ?_)
      have hM1 := hM.fr r1 (fun q q1 q2 => by omega)
      have hH1 := hH.fr r1 (by omega) (by omega)
      refine ax_iload_n f82_60 rfl ?_
      refine ax_iload_n f82_61 rfl ?_
      refine ax_isub f82_62 ?_
      refine ax_iconst f82_63 ?_
      refine ax_icmp_ne f82_64 rfl ⟨by omega, by omega⟩ ⟨by omega, by omega⟩ (fun q64 => ?_) (fun q64 => ?_)
      · refine ax_aload_n f82_86 rfl ?_
        refine ax_getf f82_87 o1 rfl ?_
        refine ax_iload_n f82_90 rfl ?_
        refine ax_iload_n f82_91 rfl ?_
        refine ax_cvI (rest := []) f82_92 hH1.1 rfl rfl rfl rfl rfl rfl rfl rfl (c_26 hH1 hvl y1 y2 y3) ?_
        intro _ e_
        obtain rfl := e_.symm
        clear e_
        obtain ⟨m1, m2⟩ := hlf_in (vl R w) (a := a) (b := b) (by omega)
        have hst := sr_step R w f a b lack lk F q32 q64
        generalize hlf (vl R w) a b = m at *
        have hbk := bok_in i.1.1 (a := a) (b := m) y1 (by omega) (by omega)
        have hfd := fld_in i.1.1 (a := a) (b := m) y1 (by omega) (by omega)
        refine ax_istore (ls' := [_, _, _, _, _, _, _, _]) f82_95 (Nat.le_of_ble_eq_true rfl) rfl ?_
        refine ax_aload f82_97 rfl ?_
        refine ax_iload_n f82_99 rfl ?_
        refine ax_iload f82_100 rfl ?_
        refine ax_cvI (rest := []) f82_102 hM1.1 rfl rfl rfl rfl rfl rfl rfl rfl (c_52 hM1 y1 (by omega) (by omega)) ?_
        intro _ e_
        obtain rfl := e_.symm
        clear e_
        refine ax_aload f82_105 rfl ?_
        refine ax_iload_n f82_107 rfl ?_
        refine ax_iload f82_108 rfl ?_
        refine ax_cvI (rest := [_]) f82_110 hM1.1 rfl rfl rfl rfl rfl rfl rfl rfl (c_53 hM1 i.1.2.1 y1 (by omega) (by omega)) ?_
        intro _ e_
        obtain rfl := e_.symm
        clear e_
        refine ax_isub f82_113 ?_
        have hls : 0 ≤ bok R a m - fld R a m ∧ bok R a m - fld R a m ≤ 10000 := by omega
        generalize bok R a m - fld R a m = less at *
        refine ax_istore (ls' := [_, _, _, _, _, _, _, _]) f82_114 (Nat.le_of_ble_eq_true rfl) rfl ?_
        refine ax_iload f82_116 rfl ?_
        refine ax_if_le f82_118 rfl ⟨by omega, by omega⟩ (fun q118 => ?_) (fun q118 => ?_)
        · refine ax_iload_n f82_134 rfl ?_
          refine ax_iload f82_135 rfl ?_
          refine ax_icmp_le f82_137 rfl ⟨by omega, by omega⟩ ⟨by omega, by omega⟩ (fun q137 => ?_) (fun q137 => ?_)
          · refine ax_return f82_155 rfl ?_
            refine ⟨rfl, ?_, r1⟩
            rw [hst, if_neg (c := less < lack) (by omega), if_neg (c := 0 < less) (by omega)]
            exact o1
          · refine ax_aload_n f82_140 rfl ?_
            refine ax_iload f82_141 rfl ?_
            refine ax_iload_n f82_143 rfl ?_
            refine ax_iload_n f82_144 rfl ?_
            refine ax_iload f82_145 rfl ?_
            refine ax_isub f82_147 ?_
            refine ax_iload f82_148 rfl ?_
            refine ax_iconst f82_150 ?_
            refine ax_iadd f82_151 ?_
            refine ax_csV (rest := []) f82_152 (Or.inl rfl) rfl rfl rfl rfl rfl (ble_rf _) (c_82 i hd hw f hM1 hH1 o1 (by omega) (by omega) (by omega) (by omega) (by omega) (by omega) (by omega) (by omega)) ?_
            rintro h3_ ⟨o3, f3⟩
            have o1 := o3
            have r1 := r1.trans f3
            refine ax_return f82_155 rfl ?_
            refine ⟨rfl, ?_, r1⟩
            rw [hst, if_pos (c := less < lack) (by omega), if_neg (c := 0 < less) (by omega)]
            exact o1
        · refine ax_aload_n f82_121 rfl ?_
          refine ax_iload_n f82_122 rfl ?_
          refine ax_iload f82_123 rfl ?_
          refine ax_iload f82_125 rfl ?_
          refine ax_iload f82_127 rfl ?_
          refine ax_iconst f82_129 ?_
          refine ax_iadd f82_130 ?_
          refine ax_csV (rest := []) f82_131 (Or.inl rfl) rfl rfl rfl rfl rfl (ble_rf _) (c_82 i hd hw f hM1 hH1 o1 (by omega) (by omega) (by omega) (by omega) (by omega) (by omega) (by omega) (by omega)) ?_
          rintro h2_ ⟨o2, f2⟩
          have hM1 := hM1.fr f2 (fun q q1 q2 => by omega)
          have hH1 := hH1.fr f2 (by omega) (by omega)
          have r1 := r1.trans f2
          have o1 := o2
          refine ax_iload_n f82_134 rfl ?_
          refine ax_iload f82_135 rfl ?_
          refine ax_icmp_le f82_137 rfl ⟨by omega, by omega⟩ ⟨by omega, by omega⟩ (fun q137 => ?_) (fun q137 => ?_)
          · refine ax_return f82_155 rfl ?_
            refine ⟨rfl, ?_, r1⟩
            rw [hst, if_neg (c := less < lack) (by omega), if_pos (c := 0 < less) (by omega)]
            exact o1
          · refine ax_aload_n f82_140 rfl ?_
            refine ax_iload f82_141 rfl ?_
            refine ax_iload_n f82_143 rfl ?_
            refine ax_iload_n f82_144 rfl ?_
            refine ax_iload f82_145 rfl ?_
            refine ax_isub f82_147 ?_
            refine ax_iload f82_148 rfl ?_
            refine ax_iconst f82_150 ?_
            refine ax_iadd f82_151 ?_
            refine ax_csV (rest := []) f82_152 (Or.inl rfl) rfl rfl rfl rfl rfl (ble_rf _) (c_82 i hd hw f hM1 hH1 o1 (by omega) (by omega) (by omega) (by omega) (by omega) (by omega) (by omega) (by omega)) ?_
            rintro h3_ ⟨o3, f3⟩
            have o1 := o3
            have r1 := r1.trans f3
            refine ax_return f82_155 rfl ?_
            refine ⟨rfl, ?_, r1⟩
            rw [hst, if_pos (c := less < lack) (by omega), if_pos (c := 0 < less) (by omega)]
            exact o1
      · refine ax_aload_n f82_67 rfl ?_
        refine ax_dup f82_68 rfl ?_
        refine ax_getf f82_69 o1 rfl ?_
        refine ax_aload f82_72 rfl ?_
        refine ax_getf f82_74 hM1.1 rfl ?_
        refine ax_lconst f82_77 ?_
        refine ax_iload_n f82_78 rfl ?_
        refine ax_lshl f82_79 ?_
        rw [show Int64.ofNat ((1 : Fin 2) : Nat) <<< ((iI a).toInt64 &&& 63) = _ from lB_one y1 (by omega)]
        refine ax_land f82_80 ?_
        rw [lB_and]
        refine ax_lor f82_81 ?_
        rw [lB_or]
        refine ax_putfO f82_82 (by assumption) rfl rfl rfl rfl (fun h2 o2 r2 => ?_)
        refine ax_return f82_85 rfl ?_
        refine ⟨rfl, ?_, r1.trans r2⟩
        rw [sr_2 q32 (by omega)]
        exact Sob.eq (lk := lk + 1) o2 rfl fun j j1 j2 => by
          by_cases e3 : R (48 + a) = 1
          · rw [if_pos e3]
            by_cases e : F j = 1 <;> by_cases e2 : j = a <;> simp [e, e2, e3, uZ]
          · rw [if_neg e3]
            by_cases e : F j = 1 <;> by_cases e2 : j = a <;> simp [e, e2, e3]
    · refine ax_aload_n f82_35 rfl ?_
      refine ax_dup f82_36 rfl ?_
      refine ax_getf f82_37 o rfl ?_
      refine ax_iload_n f82_40 rfl ?_
      refine ax_iload_n f82_41 rfl ?_
      refine ax_csL (rest := [_, _]) f82_42 (Or.inl rfl) rfl rfl rfl rfl rfl rfl (c_83 y1 y2 y3) ?_
      intro _ e_
      obtain rfl := e_.symm
      clear e_
      refine ax_lor f82_45 ?_
      rw [lB_or]
      refine ax_putfO f82_46 (by assumption) rfl rfl rfl rfl (fun h1 o1 r1 => ?_)
      refine ax_return f82_49 rfl ?_
      refine ⟨rfl, ?_, r1⟩
      rw [sr_1 (by omega)]
      exact Sob.eq (F := fun j => if F j = 1 then 1 else if a ≤ j ∧ j < b then 1 else 0) o1 rfl fun j j1 j2 => by
        by_cases e : F j = 1 <;> by_cases e2 : a ≤ j ∧ j < b <;> simp [e, e2]
theorem lp_81 {d s p : Nat} {R : Int → Int} {w : Int} (i : inv R) (hd : s + 2 < p ∨ p + 4 < s) (hw : w = 0 ∨ w = 1 ∨ w = 2) : ∀ (n : Nat) (k lk : Int) (F : Int → Int) {h : am_H} {x5 x6 x7 x8 : Value}, Mead h p R → Hlv h (s + 1) (vl R w) → Sob h s p lk F → k + n = blk R → 0 ≤ k →
    am_X (d + 53) 81 32 [.ref s, .ref p, .int (iI w), .int (iI (blk R)), .int (iI k), x5, x6, x7, x8] [] h (fun r h' => rV r ∧ Sob h' s p (sea R w k n lk F).1 (sea R w k n lk F).2 ∧ fr (fun q => q = s) h h')
  | 0, k, lk, F, h, x5, x6, x7, x8, hM, hH, o, h1, h2 => by
    have hb := i.b12
    refine ax_iload f81_32 rfl ?_
    refine ax_iload_n f81_34 rfl ?_
    refine ax_icmp_ge f81_35 rfl ⟨by omega, by omega⟩ ⟨by omega, by omega⟩ (fun q35 => ?_) (fun q35 => absurd q35 (by omega))
    refine ax_return f81_126 rfl ?_
    exact ⟨rfl, o, fr_rf⟩
  | n + 1, k, lk, F, h, x5, x6, x7, x8, hM, hH, o, h1, h2 => by
    have hb := i.b12
    obtain ⟨b1, b2, b3⟩ := fro_lt i.ff h2 (by omega)
    have b4 := (fro_sp i.ff k).1
    have b5 := (fro_sp i.ff (k + 1)).2.1
    have hbk := bok_in i.1.1 (a := fro R k) (b := fro R (k + 1)) b4 (by omega) b5
    have hfd := fld_in i.1.1 (a := fro R k) (b := fro R (k + 1)) b4 (by omega) b5
    have hsu := i.su h2 (by omega)
    have htr := i.tr
    refine ax_iload f81_32 rfl ?_
    refine ax_iload_n f81_34 rfl ?_
    refine ax_icmp_ge f81_35 rfl ⟨by omega, by omega⟩ ⟨by omega, by omega⟩ (fun q35 => absurd q35 (by omega)) (fun q35 => ?_)
    refine ax_aload_n f81_38 rfl ?_
    refine ax_iload f81_39 rfl ?_
    refine ax_cvI (rest := []) f81_41 hM.1 rfl rfl rfl rfl rfl rfl rfl rfl (c_50 hM i.ff h2 (by omega)) ?_
    intro _ e_
    obtain rfl := e_.symm
    clear e_
    refine ax_istore (ls' := [_, _, _, _, _, _, _, _, _]) f81_44 (Nat.le_of_ble_eq_true rfl) rfl ?_
    refine ax_aload_n f81_46 rfl ?_
    refine ax_iload f81_47 rfl ?_
    refine ax_iconst f81_49 ?_
    refine ax_iadd f81_50 ?_
    refine ax_cvI (rest := []) f81_51 hM.1 rfl rfl rfl rfl rfl rfl rfl rfl (c_50 hM i.ff (by omega) (by omega)) ?_
    intro _ e_
    obtain rfl := e_.symm
    clear e_
    refine ax_istore (ls' := [_, _, _, _, _, _, _, _, _]) f81_54 (Nat.le_of_ble_eq_true rfl) rfl ?_
    refine ax_aload_n f81_56 rfl ?_
    refine ax_iload f81_57 rfl ?_
    refine ax_cvI (rest := []) f81_59 hM.1 rfl rfl rfl rfl rfl rfl rfl rfl (c_47 hM h2 (by omega)) ?_
    intro _ e_
    obtain rfl := e_.symm
    clear e_
    refine ax_istore (ls' := [_, _, _, _, _, _, _, _, _]) f81_62 (Nat.le_of_ble_eq_true rfl) rfl ?_
    refine ax_aload_n f81_64 rfl ?_
    refine ax_getf f81_65 hM.1 rfl ?_
    refine ax_if_ne f81_68 rfl ⟨by omega, by omega⟩ (fun q68 => ?_) (fun q68 => ?_)
    · refine ax_aload_n f81_91 rfl ?_
      refine ax_iload f81_92 rfl ?_
      refine ax_iload f81_94 rfl ?_
      refine ax_cvI (rest := []) f81_96 hM.1 rfl rfl rfl rfl rfl rfl rfl rfl (c_52 hM b4 (by omega) b5) ?_
      intro _ e_
      obtain rfl := e_.symm
      clear e_
      refine ax_iload f81_99 rfl ?_
      refine ax_isub f81_101 ?_
      refine ax_istore (ls' := [_, _, _, _, _, _, _, _, _]) f81_102 (Nat.le_of_ble_eq_true rfl) rfl ?_
      refine ax_iload f81_104 rfl ?_
      refine ax_if_le f81_106 rfl ⟨by omega, by omega⟩ (fun q106 => ?_) (fun q106 => ?_)
      · refine ax_iinc f81_120 rfl (Nat.le_of_ble_eq_true rfl) rfl ?_
        refine ax_goto f81_123 rfl ?_
        have ih := lp_81 (d := d) i hd hw n (k + 1) _ _ hM hH o (by omega) (by omega) (x5 := .int (iI (fro R k))) (x6 := .int (iI (fro R (k + 1)))) (x7 := .int (iI (R (193 + k)))) (x8 := .int (iI (bok R (fro R k) (fro R (k + 1)) - (R (193 + k)))))
        refine am_X_mono ih (Nat.le_refl _) ?_
        rintro r h' ⟨g1, g2, g3⟩
        refine ⟨g1, ?_, g3⟩
        unfold sea
        dsimp only
        rw [if_neg (c := R 269 = 0) (by omega), if_neg (c := R 269 = 0) (by omega), if_neg (c := 0 < bok R (fro R k) (fro R (k + 1)) - (R (193 + k))) (by omega)]
        exact g2
      · refine ax_aload_n f81_109 rfl ?_
        refine ax_iload f81_110 rfl ?_
        refine ax_iload f81_112 rfl ?_
        refine ax_iload f81_114 rfl ?_
        refine ax_iconst f81_116 ?_
        refine ax_csV (rest := []) f81_117 (Or.inl rfl) rfl rfl rfl rfl rfl (Nat.ble_eq_true_of_le (by omega)) (c_82 i hd hw 48 hM hH o b4 b3 b5 (by omega) (by omega) (by omega) (by omega) (by omega)) ?_
        rintro h9 ⟨o9, f9⟩
        refine ax_iinc f81_120 rfl (Nat.le_of_ble_eq_true rfl) rfl ?_
        refine ax_goto f81_123 rfl ?_
        obtain ⟨S, hS⟩ : ∃ S, S = sr R w 48 (fro R k) (fro R (k + 1)) (bok R (fro R k) (fro R (k + 1)) - (R (193 + k))) lk F := ⟨_, rfl⟩
        rw [← hS] at o9
        have ih := lp_81 (d := d) i hd hw n (k + 1) _ _ (hM.fr f9 (fun q q1 q2 => by omega)) (hH.fr f9 (by omega) (by omega)) o9 (by omega) (by omega) (x5 := .int (iI (fro R k))) (x6 := .int (iI (fro R (k + 1)))) (x7 := .int (iI (R (193 + k)))) (x8 := .int (iI (bok R (fro R k) (fro R (k + 1)) - (R (193 + k)))))
        refine am_X_mono ih (Nat.le_refl _) ?_
        rintro r h' ⟨g1, g2, g3⟩
        refine ⟨g1, ?_, f9.trans g3⟩
        unfold sea
        dsimp only
        rw [if_neg (c := R 269 = 0) (by omega), if_neg (c := R 269 = 0) (by omega), if_pos (c := 0 < bok R (fro R k) (fro R (k + 1)) - (R (193 + k))) (by omega), ← hS]
        exact g2
    · refine ax_aload_n f81_71 rfl ?_
      refine ax_dup f81_72 rfl ?_
      refine ax_getf f81_73 o rfl ?_
      refine ax_iconst f81_76 ?_
      refine ax_iadd f81_77 ?_
      refine ax_putfO f81_78 o rfl rfl rfl rfl (fun h1 o1 r1 => ?_)
      have hM := hM.fr r1 (fun q q1 q2 => by omega)
      have hH := hH.fr r1 (by omega) (by omega)
      have o : Sob h1 s p (lk + 1) F := o1
      refine ax_aload_n f81_81 rfl ?_
      refine ax_iload f81_82 rfl ?_
      refine ax_iload f81_84 rfl ?_
      refine ax_cvI (rest := []) f81_86 hM.1 rfl rfl rfl rfl rfl rfl rfl rfl (c_53 hM i.1.2.1 b4 (by omega) b5) ?_
      intro _ e_
      obtain rfl := e_.symm
      clear e_
      refine ax_istore (ls' := [_, _, _, _, _, _, _, _, _]) f81_89 (Nat.le_of_ble_eq_true rfl) rfl ?_
      refine ax_aload_n f81_91 rfl ?_
      refine ax_iload f81_92 rfl ?_
      refine ax_iload f81_94 rfl ?_
      refine ax_cvI (rest := []) f81_96 hM.1 rfl rfl rfl rfl rfl rfl rfl rfl (c_52 hM b4 (by omega) b5) ?_
      intro _ e_
      obtain rfl := e_.symm
      clear e_
      refine ax_iload f81_99 rfl ?_
      refine ax_isub f81_101 ?_
      refine ax_istore (ls' := [_, _, _, _, _, _, _, _, _]) f81_102 (Nat.le_of_ble_eq_true rfl) rfl ?_
      refine ax_iload f81_104 rfl ?_
      refine ax_if_le f81_106 rfl ⟨by omega, by omega⟩ (fun q106 => ?_) (fun q106 => ?_)
      · refine ax_iinc f81_120 rfl (Nat.le_of_ble_eq_true rfl) rfl ?_
        refine ax_goto f81_123 rfl ?_
        have ih := lp_81 (d := d) i hd hw n (k + 1) _ _ hM hH o (by omega) (by omega) (x5 := .int (iI (fro R k))) (x6 := .int (iI (fro R (k + 1)))) (x7 := .int (iI (fld R (fro R k) (fro R (k + 1))))) (x8 := .int (iI (bok R (fro R k) (fro R (k + 1)) - (fld R (fro R k) (fro R (k + 1))))))
        refine am_X_mono ih (Nat.le_refl _) ?_
        rintro r h' ⟨g1, g2, g3⟩
        refine ⟨g1, ?_, r1.trans g3⟩
        unfold sea
        dsimp only
        rw [if_pos (c := R 269 = 0) (by omega), if_pos (c := R 269 = 0) (by omega), if_neg (c := 0 < bok R (fro R k) (fro R (k + 1)) - (fld R (fro R k) (fro R (k + 1)))) (by omega)]
        exact g2
      · refine ax_aload_n f81_109 rfl ?_
        refine ax_iload f81_110 rfl ?_
        refine ax_iload f81_112 rfl ?_
        refine ax_iload f81_114 rfl ?_
        refine ax_iconst f81_116 ?_
        refine ax_csV (rest := []) f81_117 (Or.inl rfl) rfl rfl rfl rfl rfl (Nat.ble_eq_true_of_le (by omega)) (c_82 i hd hw 48 hM hH o b4 b3 b5 (by omega) (by omega) (by omega) (by omega) (by omega)) ?_
        rintro h9 ⟨o9, f9⟩
        refine ax_iinc f81_120 rfl (Nat.le_of_ble_eq_true rfl) rfl ?_
        refine ax_goto f81_123 rfl ?_
        obtain ⟨S, hS⟩ : ∃ S, S = sr R w 48 (fro R k) (fro R (k + 1)) (bok R (fro R k) (fro R (k + 1)) - (fld R (fro R k) (fro R (k + 1)))) (lk + 1) F := ⟨_, rfl⟩
        rw [← hS] at o9
        have ih := lp_81 (d := d) i hd hw n (k + 1) _ _ (hM.fr f9 (fun q q1 q2 => by omega)) (hH.fr f9 (by omega) (by omega)) o9 (by omega) (by omega) (x5 := .int (iI (fro R k))) (x6 := .int (iI (fro R (k + 1)))) (x7 := .int (iI (fld R (fro R k) (fro R (k + 1))))) (x8 := .int (iI (bok R (fro R k) (fro R (k + 1)) - (fld R (fro R k) (fro R (k + 1))))))
        refine am_X_mono ih (Nat.le_refl _) ?_
        rintro r h' ⟨g1, g2, g3⟩
        refine ⟨g1, ?_, (r1.trans f9).trans g3⟩
        unfold sea
        dsimp only
        rw [if_pos (c := R 269 = 0) (by omega), if_pos (c := R 269 = 0) (by omega), if_pos (c := 0 < bok R (fro R k) (fro R (k + 1)) - (fld R (fro R k) (fro R (k + 1)))) (by omega), ← hS]
        exact g2
/-- a search object as it is between searches -/
def Srch (h : am_H) (s : Nat) : Prop := (∃ v lk fd, h.1[s]? = some (.inr (5, [.ref (s + 1), v, .int lk, .long fd]))) ∧ Hl0 h (s + 1)
theorem Sob.z {h : am_H} {s p : Nat} {lk : Int} {F : Int → Int} (o : Sob h s p lk F) (q : Hl0 h (s + 1)) : Srch h s := ⟨⟨_, _, _, o⟩, q⟩
theorem Srch.fr {h h' : am_H} {s : Nat} {S : Nat → Prop} (q : Srch h s) (b : fr S h h') (h1 : ∀ x, s ≤ x → x ≤ s + 2 → ¬ S x) : Srch h' s := by
  obtain ⟨⟨v, lk, fd, o⟩, g⟩ := q
  exact ⟨⟨v, lk, fd, b.at (h1 s (by omega) (by omega)) o⟩, g.fr b (h1 _ (by omega) (by omega)) (h1 _ (by omega) (by omega))⟩
theorem c_81 {h : am_H} {s p : Nat} {R : Int → Int} {w : Int} (hS : Srch h s) (hM : Mead h p R) (i : inv R) (hd : s + 2 < p ∨ p + 4 < s) (hw : w = 0 ∨ w = 1 ∨ w = 2) : am_X 53 81 0 (am_ent 81 [.ref s, .ref p, .int (iI w)]) [] h (fun r h' => rV r ∧ Sob h' s p (sek R w).1 (sek R w).2 ∧ Hl0 h' (s + 1) ∧ fr (fun q => s ≤ q ∧ q ≤ s + 2) h h') := by
  show am_X 53 81 0 [.ref s, .ref p, .int (iI w), am_u, am_u, am_u, am_u, am_u, am_u] [] h _
  obtain ⟨⟨v, lk, fd, o⟩, hH⟩ := hS
  refine ax_aload_n f81_0 rfl ?_
  refine ax_aload_n f81_1 rfl ?_
  refine ax_putfO f81_2 o rfl rfl rfl rfl (fun h1 o1 r1 => ?_)
  refine ax_aload_n f81_5 rfl ?_
  refine ax_iconst f81_6 ?_
  refine ax_putfO f81_7 o1 rfl rfl rfl rfl (fun h2 o2 r2 => ?_)
  refine ax_aload_n f81_10 rfl ?_
  refine ax_lconst f81_11 ?_
  refine ax_putfO f81_12 o2 rfl rfl rfl rfl (fun h3 o3 r3 => ?_)
  have hM := ((hM.fr r1 (fun q q1 q2 => by omega)).fr r2 (fun q q1 q2 => by omega)).fr r3 (fun q q1 q2 => by omega)
  have hH := ((hH.fr r1 (by omega) (by omega)).fr r2 (by omega) (by omega)).fr r3 (by omega) (by omega)
  refine ax_aload_n f81_15 rfl ?_
  refine ax_getf f81_16 o3 rfl ?_
  refine ax_aload_n f81_19 rfl ?_
  refine ax_iload_n f81_20 rfl ?_
  refine ax_cvV (rest := []) f81_21 hH.1 rfl rfl rfl rfl rfl rfl rfl rfl (c_24 hH hM hw (by omega)) ?_
  rintro h4 ⟨hH, f4⟩
  have hM := hM.fr f4 (fun q q1 q2 => by omega)
  have o4 := f4.at (q := s) (by omega) o3
  refine ax_aload_n f81_24 rfl ?_
  refine ax_cvI (rest := []) f81_25 hM.1 rfl rfl rfl rfl rfl rfl rfl rfl (c_48 hM i.ff) ?_
  intro _ e_
  obtain rfl := e_.symm
  clear e_
  refine ax_istore_n (ls' := [_, _, _, _, _, _, _, _, _]) f81_28 (Nat.le_of_ble_eq_true rfl) rfl ?_
  refine ax_iconst f81_29 ?_
  refine ax_istore (ls' := [_, _, _, _, _, _, _, _, _]) f81_30 (Nat.le_of_ble_eq_true rfl) rfl ?_
  have hb := blk_1 i.ff
  have e0 : lB (fun _ => 0) = (Int64.ofNat ((0 : Fin 2) : Nat)) := by decide
  have oo : Sob h4 s p 0 (fun _ => 0) := by
    unfold Sob
    rw [e0]
    exact o4
  have ih := lp_81 (d := 0) (s := s) i hd hw (blk R).toNat 0 0 (fun _ => 0) hM hH oo (by omega) (by omega) (x5 := am_u) (x6 := am_u) (x7 := am_u) (x8 := am_u)
  refine am_X_mono ih (Nat.le_refl _) ?_
  rintro r h' ⟨g1, g2, g3⟩
  refine ⟨g1, g2, (hH.fr g3 (by omega) (by omega)).z, ?_⟩
  have F := r1.mono (T := fun q => s ≤ q ∧ q ≤ s + 2) (fun x e => by omega)
  have F := F.trans (r2.mono (T := fun q => s ≤ q ∧ q ≤ s + 2) (fun x e => by omega))
  have F := F.trans (r3.mono (T := fun q => s ≤ q ∧ q ≤ s + 2) (fun x e => by omega))
  have F := F.trans (f4.mono (T := fun q => s ≤ q ∧ q ≤ s + 2) (fun x e => by omega))
  exact F.trans (g3.mono (fun x e => by omega))
end SRC
