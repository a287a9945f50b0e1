/-! ===== the reference: searches ===== -/
section MSE
theorem c_175 {h : am_H} {c th lk pa le sp fi se : Int} (o : Mo h c th lk pa le sp fi se) {g7 g8 g9 : Int → Int} {x y l : Int} (hp : 0 ≤ pa ∧ pa < 64) (a7 : oI h 127 64 g7) (a8 : oI h 128 64 g8) (a9 : oI h 129 64 g9) : am_X 0 175 0 (am_ent 175 [.ref 120, .int (iI x), .int (iI y), .int (iI l)]) [] h (fun r h' => rV r ∧ Mo h' c th lk (pa + 1) le sp fi se ∧ oI h' 127 64 (uZ g7 pa x) ∧ oI h' 128 64 (uZ g8 pa y) ∧ oI h' 129 64 (uZ g9 pa l) ∧ fr (fun x => x = 120 ∨ x = 127 ∨ x = 128 ∨ x = 129) h h') := by
  show am_X 0 175 0 [.ref 120, .int (iI x), .int (iI y), .int (iI l)] [] h _
  have F : fr (fun x => x = 120 ∨ x = 127 ∨ x = 128 ∨ x = 129) h h := fr_rf
  refine ax_aload_n f175_0 rfl ?_
  refine ax_getf f175_1 o rfl ?_
  refine ax_aload_n f175_4 rfl ?_
  refine ax_getf f175_5 o rfl ?_
  refine ax_iload_n f175_8 rfl ?_
  refine ax_iastO f175_9 a7 (by omega) (by omega) rfl (fun hp1 o1 r1 => ?_)
  have o : Mo hp1 _ _ _ _ _ _ _ _ := r1.at (q := 120) (by omega) o
  have a7 := o1
  have a8 := a8.fr r1 (by omega)
  have a9 := a9.fr r1 (by omega)
  have F := F.trans (r1.mono fun x e => by omega)
  refine ax_aload_n f175_10 rfl ?_
  refine ax_getf f175_11 o rfl ?_
  refine ax_aload_n f175_14 rfl ?_
  refine ax_getf f175_15 o rfl ?_
  refine ax_iload_n f175_18 rfl ?_
  refine ax_iastO f175_19 a8 (by omega) (by omega) rfl (fun hp2 o2 r2 => ?_)
  have o : Mo hp2 _ _ _ _ _ _ _ _ := r2.at (q := 120) (by omega) o
  have a7 := a7.fr r2 (by omega)
  have a8 := o2
  have a9 := a9.fr r2 (by omega)
  have F := F.trans (r2.mono fun x e => by omega)
  refine ax_aload_n f175_20 rfl ?_
  refine ax_getf f175_21 o rfl ?_
  refine ax_aload_n f175_24 rfl ?_
  refine ax_getf f175_25 o rfl ?_
  refine ax_iload_n f175_28 rfl ?_
  refine ax_iastO f175_29 a9 (by omega) (by omega) rfl (fun hp3 o3 r3 => ?_)
  have o : Mo hp3 _ _ _ _ _ _ _ _ := r3.at (q := 120) (by omega) o
  have a7 := a7.fr r3 (by omega)
  have a8 := a8.fr r3 (by omega)
  have a9 := o3
  have F := F.trans (r3.mono fun x e => by omega)
  refine ax_aload_n f175_30 rfl ?_
  refine ax_dup f175_31 rfl ?_
  refine ax_getf f175_32 o rfl ?_
  refine ax_iconst f175_35 ?_
  refine ax_iadd f175_36 ?_
  refine ax_putfO f175_37 o rfl rfl rfl rfl (fun hp4 o4 r4 => ?_)
  have o : Mo hp4 _ _ _ _ _ _ _ _ := o4
  have a7 := a7.fr r4 (by omega)
  have a8 := a8.fr r4 (by omega)
  have a9 := a9.fr r4 (by omega)
  have F := F.trans (r4.mono fun x e => by omega)
  refine ax_return f175_40 rfl ?_
  exact ⟨rfl, o, a7, a8, a9, F⟩
theorem lp_176 {d : Nat} {Q : am_R → am_H → Prop} {F0 : Int → Int} {x y : Int} {x1 x3 x6 : Value} {x4 : Int32} {c th lk pa le sp fi se : Int} : ∀ {h : am_H} (o : Mo h c th lk pa le sp fi se) (h0 : 0 ≤ x ∧ y ≤ 48) (n : Nat) (r : Int), r + n = y → x ≤ r → ∀ g : Int → Int, oA 2 h 126 48 g → (∀ j, 0 ≤ j → j < 48 → g j = if x ≤ j ∧ j < r then 1 else F0 j) → (∀ h' : am_H, oA 2 h' 126 48 (fun j => if x ≤ j ∧ j < y then 1 else F0 j) → fr (fun x => x = 126) h h' → am_X d 176 33 [.ref 120, x1, .int (iI y), x3, .int x4, .int (iI y), x6] [] h' Q) → am_X d 176 13 [.ref 120, x1, .int (iI y), x3, .int x4, .int (iI r), x6] [] h Q
  | h, o, h0, 0, r, h1, h2, g, a6, hg, k => by
    have h1 : r = y := by omega
    subst h1
    refine ax_iload f176_13 rfl ?_
    refine ax_iload_n f176_15 rfl ?_
    refine ax_icmp_ge f176_16 rfl ⟨by omega, by omega⟩ ⟨by omega, by omega⟩ (fun q16 => ?_) (fun q16 => absurd q16 (by omega))
    exact k h (a6.eq fun j j1 j2 => (hg j j1 j2).symm) fr_rf
  | h, o, h0, n + 1, r, h1, h2, g, a6, hg, k => by
    refine ax_iload f176_13 rfl ?_
    refine ax_iload_n f176_15 rfl ?_
    refine ax_icmp_ge f176_16 rfl ⟨by omega, by omega⟩ ⟨by omega, by omega⟩ (fun q16 => absurd q16 (by omega)) (fun q16 => ?_)
    refine ax_aload_n f176_19 rfl ?_
    refine ax_getf f176_20 o rfl ?_
    refine ax_iload f176_23 rfl ?_
    refine ax_iconst f176_25 ?_
    refine ax_bastO f176_26 a6 (by omega) (by omega) rfl (by omega) (fun hp1 o1 r1 => ?_)
    have o : Mo hp1 _ _ _ _ _ _ _ _ := r1.at (q := 120) (by omega) o
    have a6 := o1
    refine ax_iinc (ls' := [_, _, _, _, _, _, _]) f176_27 rfl (Nat.le_of_ble_eq_true rfl) rfl ?_
    refine ax_goto f176_30 rfl ?_
    refine lp_176 (F0 := F0) o h0 n (r + 1) (by omega) (by omega) _ a6 ?_ ?_
    · intro j j1 j2
      unfold uZ
      by_cases e : j = r
      · rw [if_pos e, if_pos (by omega)]
      · rw [if_neg e, hg j j1 j2]
        by_cases e2 : x ≤ j ∧ j < r
        · rw [if_pos e2, if_pos (by omega)]
        · rw [if_neg e2, if_neg (by omega)]
    · intro h9 a9 f9
      exact k h9 a9 (r1.trans f9)
theorem c_176_1 {h : am_H} {R : Int → Int} {c th lk pa le sp fi se : Int} (o : Mo h c th lk pa le sp fi se) (a1 : oI h 121 270 R) {x y l w : Int} (hw : w = 0 ∨ w = 1 ∨ w = 2) (i : inv R) (h1 : 0 ≤ x) (h2 : x < y) (h3 : y ≤ 48) (hl : 0 ≤ l ∧ l ≤ 10000) {F0 : Int → Int} (a6 : oA 2 h 126 48 F0) (e : l = bok R x y) : am_X 5 176 0 (am_ent 176 [.ref 120, .int (iI x), .int (iI y), .int (iI l), .int (iI w)]) [] h (fun r h' => rV r ∧ oA 2 h' 126 48 (fun j => if x ≤ j ∧ j < y then 1 else F0 j) ∧ fr (fun x => x = 126) h h') := by
  show am_X 5 176 0 [.ref 120, .int (iI x), .int (iI y), .int (iI l), .int (iI w), am_u, am_u] [] h _
  have hk := bok_in i.1.1 h1 (show x ≤ y by omega) h3
  refine ax_iload_n f176_0 rfl ?_
  refine ax_aload_n f176_1 rfl ?_
  refine ax_iload_n f176_2 rfl ?_
  refine ax_iload_n f176_3 rfl ?_
  refine ax_cvI (rest := [_]) f176_4 o rfl rfl rfl rfl rfl rfl rfl rfl (c_156 o a1 h1 (by omega) h3) ?_
  intro _ e_
  obtain rfl := e_.symm
  clear e_
  refine ax_icmp_ne f176_7 rfl ⟨by omega, by omega⟩ ⟨by omega, by omega⟩ (fun q7 => absurd q7 (by omega)) (fun q7 => ?_)
  refine ax_iload_n f176_10 rfl ?_
  refine ax_istore (ls' := [_, _, _, _, _, _, _]) f176_11 (Nat.le_of_ble_eq_true rfl) rfl ?_
  refine lp_176 o ⟨h1, h3⟩ (y - x).toNat x (by omega) (by omega) _ a6 (fun j j1 j2 => by rw [if_neg (by omega)]) ?_
  intro h9 a9 f9
  refine ax_return f176_33 rfl ?_
  exact ⟨rfl, a9, f9⟩
theorem c_176_2 {h : am_H} {R : Int → Int} {c th lk pa le sp fi se : Int} (o : Mo h c th lk pa le sp fi se) (a1 : oI h 121 270 R) {x y l w : Int} (hw : w = 0 ∨ w = 1 ∨ w = 2) (i : inv R) (h1 : 0 ≤ x) (h2 : x < y) (h3 : y ≤ 48) (hl : 0 ≤ l ∧ l ≤ 10000) {F0 : Int → Int} (a6 : oA 2 h 126 48 F0) (hF : F0 x = 0) (e1 : ¬ l = bok R x y) (e2 : y - x = 1) : am_X 5 176 0 (am_ent 176 [.ref 120, .int (iI x), .int (iI y), .int (iI l), .int (iI w)]) [] h (fun r h' => rV r ∧ Mo h' c th (lk + 1) pa le sp fi se ∧ oA 2 h' 126 48 (if R (48 + x) = 1 then uZ F0 x 1 else F0) ∧ fr (fun x => x = 120 ∨ x = 126) h h') := by
  show am_X 5 176 0 [.ref 120, .int (iI x), .int (iI y), .int (iI l), .int (iI w), am_u, am_u] [] h _
  have F : fr (fun x => x = 120 ∨ x = 126) h h := fr_rf
  have ha := i.aw h1 (show x < 48 by omega)
  have hk := bok_in i.1.1 h1 (show x ≤ y by omega) h3
  refine ax_iload_n f176_0 rfl ?_
  refine ax_aload_n f176_1 rfl ?_
  refine ax_iload_n f176_2 rfl ?_
  refine ax_iload_n f176_3 rfl ?_
  refine ax_cvI (rest := [_]) f176_4 o rfl rfl rfl rfl rfl rfl rfl rfl (c_156 o a1 h1 (by omega) h3) ?_
  intro _ e_
  obtain rfl := e_.symm
  clear e_
  refine ax_icmp_ne f176_7 rfl ⟨by omega, by omega⟩ ⟨by omega, by omega⟩ (fun q7 => ?_) (fun q7 => absurd q7 (by omega))
  refine ax_aload_n f176_34 rfl ?_
  refine ax_dup f176_35 rfl ?_
  refine ax_getf f176_36 o rfl ?_
  refine ax_iconst f176_39 ?_
  refine ax_iadd f176_40 ?_
  refine ax_putfO f176_41 o rfl rfl rfl rfl (fun hp1 o1 r1 => ?_)
  have o : Mo hp1 _ _ _ _ _ _ _ _ := o1
  have a1 := a1.fr r1 (by omega)
  have a6 := a6.fr r1 (by omega)
  have F := F.trans (r1.mono fun x e => by omega)
  refine ax_iload_n f176_44 rfl ?_
  refine ax_iload_n f176_45 rfl ?_
  refine ax_isub f176_46 ?_
  refine ax_iconst f176_47 ?_
  refine ax_icmp_ne f176_48 rfl ⟨by omega, by omega⟩ ⟨by omega, by omega⟩ (fun q48 => absurd q48 (by omega)) (fun q48 => ?_)
  refine ax_aload_n f176_51 rfl ?_
  refine ax_getf f176_52 o rfl ?_
  refine ax_iload_n f176_55 rfl ?_
  refine ax_aload_n f176_56 rfl ?_
  refine ax_getf f176_57 o rfl ?_
  refine ax_bipush f176_60 ?_
  refine ax_iload_n f176_62 rfl ?_
  refine ax_iadd f176_63 ?_
  refine ax_ialdO f176_64 (by decide) a1 (by omega) (by omega) rfl ?_
  refine ax_iconst f176_65 ?_
  refine ax_icmp_ne f176_66 rfl ⟨by omega, by omega⟩ ⟨by omega, by omega⟩ (fun q66 => ?_) (fun q66 => ?_)
  · refine ax_iconst f176_73 ?_
    refine ax_bastO f176_74 a6 (by omega) (by omega) rfl (by omega) (fun hp11 o11 r11 => ?_)
    have o : Mo hp11 _ _ _ _ _ _ _ _ := r11.at (q := 120) (by omega) o
    have a1 := a1.fr r11 (by omega)
    have a6 := o11
    have F := F.trans (r11.mono fun x e => by omega)
    refine ax_return f176_75 rfl ?_
    refine ⟨rfl, o, a6.eq fun j j1 j2 => ?_, F⟩
    by_cases e : j = x
    · rw [e, uZ_s]
      split
      · first | exact uZ_s | omega
      · first | exact hF | omega
    · rw [uZ_n e]
      split
      · exact uZ_n e
      · rfl
  · refine ax_iconst f176_69 ?_
    refine ax_goto f176_70 rfl ?_
    refine ax_bastO f176_74 a6 (by omega) (by omega) rfl (by omega) (fun hp11 o11 r11 => ?_)
    have o : Mo hp11 _ _ _ _ _ _ _ _ := r11.at (q := 120) (by omega) o
    have a1 := a1.fr r11 (by omega)
    have a6 := o11
    have F := F.trans (r11.mono fun x e => by omega)
    refine ax_return f176_75 rfl ?_
    refine ⟨rfl, o, a6.eq fun j j1 j2 => ?_, F⟩
    by_cases e : j = x
    · rw [e, uZ_s]
      split
      · first | exact uZ_s | omega
      · first | exact hF | omega
    · rw [uZ_n e]
      split
      · exact uZ_n e
      · rfl
theorem c_176_3a {h : am_H} {R : Int → Int} {c th lk pa le sp fi se : Int} (o : Mo h c th lk pa le sp fi se) (a1 : oI h 121 270 R) {x y l w : Int} (hw : w = 0 ∨ w = 1 ∨ w = 2) (i : inv R) (h1 : 0 ≤ x) (h2 : x < y) (h3 : y ≤ 48) (hl : 0 ≤ l ∧ l ≤ 10000) {g7 g8 g9 : Int → Int} (a7 : oI h 127 64 g7) (a8 : oI h 128 64 g8) (a9 : oI h 129 64 g9) (hp : 0 ≤ pa ∧ pa < 62) (e1 : ¬ l = bok R x y) (e2 : ¬ y - x = 1) {m ls : Int} (em : hlf (vl R w) x y = m) (es : bok R x m - fld R x m = ls) (q1 : ls < l) (q2 : 0 < ls) : am_X 5 176 0 (am_ent 176 [.ref 120, .int (iI x), .int (iI y), .int (iI l), .int (iI w)]) [] h (fun r h' => rV r ∧ Mo h' c th (lk + 1) (pa + 1 + 1) le sp fi se ∧ oI h' 127 64 (uZ (uZ g7 pa m) (pa + 1) x) ∧ oI h' 128 64 (uZ (uZ g8 pa y) (pa + 1) m) ∧ oI h' 129 64 (uZ (uZ g9 pa (l - ls)) (pa + 1) ls) ∧ fr (fun x => x = 120 ∨ x = 127 ∨ x = 128 ∨ x = 129) h h') := by
  show am_X 5 176 0 [.ref 120, .int (iI x), .int (iI y), .int (iI l), .int (iI w), am_u, am_u] [] h _
  have F : fr (fun x => x = 120 ∨ x = 127 ∨ x = 128 ∨ x = 129) h h := fr_rf
  have hk := bok_in i.1.1 h1 (show x ≤ y by omega) h3
  have hm := hlf_in (vl R w) (a := x) (b := y) (by omega)
  rw [em] at hm
  have hk2 := bok_in i.1.1 h1 (show x ≤ m by omega) (by omega)
  have hk3 := fld_in i.1.1 h1 (show x ≤ m by omega) (by omega)
  refine ax_iload_n f176_0 rfl ?_
  refine ax_aload_n f176_1 rfl ?_
  refine ax_iload_n f176_2 rfl ?_
  refine ax_iload_n f176_3 rfl ?_
  refine ax_cvI (rest := [_]) f176_4 o rfl rfl rfl rfl rfl rfl rfl rfl (c_156 o a1 h1 (by omega) h3) ?_
  intro _ e_
  obtain rfl := e_.symm
  clear e_
  refine ax_icmp_ne f176_7 rfl ⟨by omega, by omega⟩ ⟨by omega, by omega⟩ (fun q7 => ?_) (fun q7 => absurd q7 (by omega))
  refine ax_aload_n f176_34 rfl ?_
  refine ax_dup f176_35 rfl ?_
  refine ax_getf f176_36 o rfl ?_
  refine ax_iconst f176_39 ?_
  refine ax_iadd f176_40 ?_
  refine ax_putfO f176_41 o rfl rfl rfl rfl (fun hp1 o1 r1 => ?_)
  have o : Mo hp1 _ _ _ _ _ _ _ _ := o1
  have a1 := a1.fr r1 (by omega)
  have a7 := a7.fr r1 (by omega)
  have a8 := a8.fr r1 (by omega)
  have a9 := a9.fr r1 (by omega)
  have F := F.trans (r1.mono fun x e => by omega)
  refine ax_iload_n f176_44 rfl ?_
  refine ax_iload_n f176_45 rfl ?_
  refine ax_isub f176_46 ?_
  refine ax_iconst f176_47 ?_
  refine ax_icmp_ne f176_48 rfl ⟨by omega, by omega⟩ ⟨by omega, by omega⟩ (fun q48 => ?_) (fun q48 => absurd q48 (by omega))
  refine ax_aload_n f176_76 rfl ?_
  refine ax_iload_n f176_77 rfl ?_
  refine ax_iload_n f176_78 rfl ?_
  refine ax_iload f176_79 rfl ?_
  refine ax_cvI (rest := []) f176_81 o rfl rfl rfl rfl rfl rfl rfl rfl (c_174 o a1 hw (vl_ival i w) h1 h2 h3) ?_
  intro _ e_
  obtain rfl := e_.symm
  clear e_
  rw [em]
  refine ax_istore (ls' := [_, _, _, _, _, _, _]) f176_84 (Nat.le_of_ble_eq_true rfl) rfl ?_
  refine ax_aload_n f176_86 rfl ?_
  refine ax_iload_n f176_87 rfl ?_
  refine ax_iload f176_88 rfl ?_
  refine ax_cvI (rest := []) f176_90 o rfl rfl rfl rfl rfl rfl rfl rfl (c_156 o a1 h1 (by omega) (by omega)) ?_
  intro _ e_
  obtain rfl := e_.symm
  clear e_
  refine ax_aload_n f176_93 rfl ?_
  refine ax_iload_n f176_94 rfl ?_
  refine ax_iload f176_95 rfl ?_
  refine ax_cvI (rest := [_]) f176_97 o rfl rfl rfl rfl rfl rfl rfl rfl (c_157 o a1 i.1.2.1 h1 (by omega) (by omega)) ?_
  intro _ e_
  obtain rfl := e_.symm
  clear e_
  refine ax_isub f176_100 ?_
  rw [es]
  refine ax_istore (ls' := [_, _, _, _, _, _, _]) f176_101 (Nat.le_of_ble_eq_true rfl) rfl ?_
  refine ax_iload_n f176_103 rfl ?_
  refine ax_iload f176_104 rfl ?_
  refine ax_icmp_le f176_106 rfl ⟨by omega, by omega⟩ ⟨by omega, by omega⟩ (fun q106 => absurd q106 (by omega)) (fun q106 => ?_)
  refine ax_aload_n f176_109 rfl ?_
  refine ax_iload f176_110 rfl ?_
  refine ax_iload_n f176_112 rfl ?_
  refine ax_iload_n f176_113 rfl ?_
  refine ax_iload f176_114 rfl ?_
  refine ax_isub f176_116 ?_
  refine ax_cvV (rest := []) f176_117 o rfl rfl rfl rfl rfl rfl rfl rfl (c_175 o (by omega) a7 a8 a9) ?_
  rintro h50 ⟨o5, a75, a85, a95, f5⟩
  have o : Mo h50 _ _ _ _ _ _ _ _ := o5
  have a1 := a1.fr f5 (by omega)
  have a7 := a75
  have a8 := a85
  have a9 := a95
  have F := F.trans (f5.mono fun x e => by omega)
  refine ax_iload f176_120 rfl ?_
  refine ax_if_le f176_122 rfl ⟨by omega, by omega⟩ (fun q122 => absurd q122 (by omega)) (fun q122 => ?_)
  refine ax_aload_n f176_125 rfl ?_
  refine ax_iload_n f176_126 rfl ?_
  refine ax_iload f176_127 rfl ?_
  refine ax_iload f176_129 rfl ?_
  refine ax_cvV (rest := []) f176_131 o rfl rfl rfl rfl rfl rfl rfl rfl (c_175 o (by omega) a7 a8 a9) ?_
  rintro h51 ⟨o5, a75, a85, a95, f5⟩
  have o : Mo h51 _ _ _ _ _ _ _ _ := o5
  have a1 := a1.fr f5 (by omega)
  have a7 := a75
  have a8 := a85
  have a9 := a95
  have F := F.trans (f5.mono fun x e => by omega)
  refine ax_return f176_134 rfl ?_
  exact ⟨rfl, o, a7, a8, a9, F⟩
theorem c_176_3b {h : am_H} {R : Int → Int} {c th lk pa le sp fi se : Int} (o : Mo h c th lk pa le sp fi se) (a1 : oI h 121 270 R) {x y l w : Int} (hw : w = 0 ∨ w = 1 ∨ w = 2) (i : inv R) (h1 : 0 ≤ x) (h2 : x < y) (h3 : y ≤ 48) (hl : 0 ≤ l ∧ l ≤ 10000) {g7 g8 g9 : Int → Int} (a7 : oI h 127 64 g7) (a8 : oI h 128 64 g8) (a9 : oI h 129 64 g9) (hp : 0 ≤ pa ∧ pa < 62) (e1 : ¬ l = bok R x y) (e2 : ¬ y - x = 1) {m ls : Int} (em : hlf (vl R w) x y = m) (es : bok R x m - fld R x m = ls) (q1 : ls < l) (q2 : ¬ 0 < ls) : am_X 5 176 0 (am_ent 176 [.ref 120, .int (iI x), .int (iI y), .int (iI l), .int (iI w)]) [] h (fun r h' => rV r ∧ Mo h' c th (lk + 1) (pa + 1) le sp fi se ∧ oI h' 127 64 (uZ g7 pa m) ∧ oI h' 128 64 (uZ g8 pa y) ∧ oI h' 129 64 (uZ g9 pa (l - ls)) ∧ fr (fun x => x = 120 ∨ x = 127 ∨ x = 128 ∨ x = 129) h h') := by
  show am_X 5 176 0 [.ref 120, .int (iI x), .int (iI y), .int (iI l), .int (iI w), am_u, am_u] [] h _
  have F : fr (fun x => x = 120 ∨ x = 127 ∨ x = 128 ∨ x = 129) h h := fr_rf
  have hk := bok_in i.1.1 h1 (show x ≤ y by omega) h3
  have hm := hlf_in (vl R w) (a := x) (b := y) (by omega)
  rw [em] at hm
  have hk2 := bok_in i.1.1 h1 (show x ≤ m by omega) (by omega)
  have hk3 := fld_in i.1.1 h1 (show x ≤ m by omega) (by omega)
  refine ax_iload_n f176_0 rfl ?_
  refine ax_aload_n f176_1 rfl ?_
  refine ax_iload_n f176_2 rfl ?_
  refine ax_iload_n f176_3 rfl ?_
  refine ax_cvI (rest := [_]) f176_4 o rfl rfl rfl rfl rfl rfl rfl rfl (c_156 o a1 h1 (by omega) h3) ?_
  intro _ e_
  obtain rfl := e_.symm
  clear e_
  refine ax_icmp_ne f176_7 rfl ⟨by omega, by omega⟩ ⟨by omega, by omega⟩ (fun q7 => ?_) (fun q7 => absurd q7 (by omega))
  refine ax_aload_n f176_34 rfl ?_
  refine ax_dup f176_35 rfl ?_
  refine ax_getf f176_36 o rfl ?_
  refine ax_iconst f176_39 ?_
  refine ax_iadd f176_40 ?_
  refine ax_putfO f176_41 o rfl rfl rfl rfl (fun hp1 o1 r1 => ?_)
  have o : Mo hp1 _ _ _ _ _ _ _ _ := o1
  have a1 := a1.fr r1 (by omega)
  have a7 := a7.fr r1 (by omega)
  have a8 := a8.fr r1 (by omega)
  have a9 := a9.fr r1 (by omega)
  have F := F.trans (r1.mono fun x e => by omega)
  refine ax_iload_n f176_44 rfl ?_
  refine ax_iload_n f176_45 rfl ?_
  refine ax_isub f176_46 ?_
  refine ax_iconst f176_47 ?_
  refine ax_icmp_ne f176_48 rfl ⟨by omega, by omega⟩ ⟨by omega, by omega⟩ (fun q48 => ?_) (fun q48 => absurd q48 (by omega))
  refine ax_aload_n f176_76 rfl ?_
  refine ax_iload_n f176_77 rfl ?_
  refine ax_iload_n f176_78 rfl ?_
  refine ax_iload f176_79 rfl ?_
  refine ax_cvI (rest := []) f176_81 o rfl rfl rfl rfl rfl rfl rfl rfl (c_174 o a1 hw (vl_ival i w) h1 h2 h3) ?_
  intro _ e_
  obtain rfl := e_.symm
  clear e_
  rw [em]
  refine ax_istore (ls' := [_, _, _, _, _, _, _]) f176_84 (Nat.le_of_ble_eq_true rfl) rfl ?_
  refine ax_aload_n f176_86 rfl ?_
  refine ax_iload_n f176_87 rfl ?_
  refine ax_iload f176_88 rfl ?_
  refine ax_cvI (rest := []) f176_90 o rfl rfl rfl rfl rfl rfl rfl rfl (c_156 o a1 h1 (by omega) (by omega)) ?_
  intro _ e_
  obtain rfl := e_.symm
  clear e_
  refine ax_aload_n f176_93 rfl ?_
  refine ax_iload_n f176_94 rfl ?_
  refine ax_iload f176_95 rfl ?_
  refine ax_cvI (rest := [_]) f176_97 o rfl rfl rfl rfl rfl rfl rfl rfl (c_157 o a1 i.1.2.1 h1 (by omega) (by omega)) ?_
  intro _ e_
  obtain rfl := e_.symm
  clear e_
  refine ax_isub f176_100 ?_
  rw [es]
  refine ax_istore (ls' := [_, _, _, _, _, _, _]) f176_101 (Nat.le_of_ble_eq_true rfl) rfl ?_
  refine ax_iload_n f176_103 rfl ?_
  refine ax_iload f176_104 rfl ?_
  refine ax_icmp_le f176_106 rfl ⟨by omega, by omega⟩ ⟨by omega, by omega⟩ (fun q106 => absurd q106 (by omega)) (fun q106 => ?_)
  refine ax_aload_n f176_109 rfl ?_
  refine ax_iload f176_110 rfl ?_
  refine ax_iload_n f176_112 rfl ?_
  refine ax_iload_n f176_113 rfl ?_
  refine ax_iload f176_114 rfl ?_
  refine ax_isub f176_116 ?_
  refine ax_cvV (rest := []) f176_117 o rfl rfl rfl rfl rfl rfl rfl rfl (c_175 o (by omega) a7 a8 a9) ?_
  rintro h50 ⟨o5, a75, a85, a95, f5⟩
  have o : Mo h50 _ _ _ _ _ _ _ _ := o5
  have a1 := a1.fr f5 (by omega)
  have a7 := a75
  have a8 := a85
  have a9 := a95
  have F := F.trans (f5.mono fun x e => by omega)
  refine ax_iload f176_120 rfl ?_
  refine ax_if_le f176_122 rfl ⟨by omega, by omega⟩ (fun q122 => ?_) (fun q122 => absurd q122 (by omega))
  refine ax_return f176_134 rfl ?_
  exact ⟨rfl, o, a7, a8, a9, F⟩
theorem c_176_3c {h : am_H} {R : Int → Int} {c th lk pa le sp fi se : Int} (o : Mo h c th lk pa le sp fi se) (a1 : oI h 121 270 R) {x y l w : Int} (hw : w = 0 ∨ w = 1 ∨ w = 2) (i : inv R) (h1 : 0 ≤ x) (h2 : x < y) (h3 : y ≤ 48) (hl : 0 ≤ l ∧ l ≤ 10000) {g7 g8 g9 : Int → Int} (a7 : oI h 127 64 g7) (a8 : oI h 128 64 g8) (a9 : oI h 129 64 g9) (hp : 0 ≤ pa ∧ pa < 62) (e1 : ¬ l = bok R x y) (e2 : ¬ y - x = 1) {m ls : Int} (em : hlf (vl R w) x y = m) (es : bok R x m - fld R x m = ls) (q1 : ¬ ls < l) (q2 : 0 < ls) : am_X 5 176 0 (am_ent 176 [.ref 120, .int (iI x), .int (iI y), .int (iI l), .int (iI w)]) [] h (fun r h' => rV r ∧ Mo h' c th (lk + 1) (pa + 1) le sp fi se ∧ oI h' 127 64 (uZ g7 pa x) ∧ oI h' 128 64 (uZ g8 pa m) ∧ oI h' 129 64 (uZ g9 pa ls) ∧ fr (fun x => x = 120 ∨ x = 127 ∨ x = 128 ∨ x = 129) h h') := by
  show am_X 5 176 0 [.ref 120, .int (iI x), .int (iI y), .int (iI l), .int (iI w), am_u, am_u] [] h _
  have F : fr (fun x => x = 120 ∨ x = 127 ∨ x = 128 ∨ x = 129) h h := fr_rf
  have hk := bok_in i.1.1 h1 (show x ≤ y by omega) h3
  have hm := hlf_in (vl R w) (a := x) (b := y) (by omega)
  rw [em] at hm
  have hk2 := bok_in i.1.1 h1 (show x ≤ m by omega) (by omega)
  have hk3 := fld_in i.1.1 h1 (show x ≤ m by omega) (by omega)
  refine ax_iload_n f176_0 rfl ?_
  refine ax_aload_n f176_1 rfl ?_
  refine ax_iload_n f176_2 rfl ?_
  refine ax_iload_n f176_3 rfl ?_
  refine ax_cvI (rest := [_]) f176_4 o rfl rfl rfl rfl rfl rfl rfl rfl (c_156 o a1 h1 (by omega) h3) ?_
  intro _ e_
  obtain rfl := e_.symm
  clear e_
  refine ax_icmp_ne f176_7 rfl ⟨by omega, by omega⟩ ⟨by omega, by omega⟩ (fun q7 => ?_) (fun q7 => absurd q7 (by omega))
  refine ax_aload_n f176_34 rfl ?_
  refine ax_dup f176_35 rfl ?_
  refine ax_getf f176_36 o rfl ?_
  refine ax_iconst f176_39 ?_
  refine ax_iadd f176_40 ?_
  refine ax_putfO f176_41 o rfl rfl rfl rfl (fun hp1 o1 r1 => ?_)
  have o : Mo hp1 _ _ _ _ _ _ _ _ := o1
  have a1 := a1.fr r1 (by omega)
  have a7 := a7.fr r1 (by omega)
  have a8 := a8.fr r1 (by omega)
  have a9 := a9.fr r1 (by omega)
  have F := F.trans (r1.mono fun x e => by omega)
  refine ax_iload_n f176_44 rfl ?_
  refine ax_iload_n f176_45 rfl ?_
  refine ax_isub f176_46 ?_
  refine ax_iconst f176_47 ?_
  refine ax_icmp_ne f176_48 rfl ⟨by omega, by omega⟩ ⟨by omega, by omega⟩ (fun q48 => ?_) (fun q48 => absurd q48 (by omega))
  refine ax_aload_n f176_76 rfl ?_
  refine ax_iload_n f176_77 rfl ?_
  refine ax_iload_n f176_78 rfl ?_
  refine ax_iload f176_79 rfl ?_
  refine ax_cvI (rest := []) f176_81 o rfl rfl rfl rfl rfl rfl rfl rfl (c_174 o a1 hw (vl_ival i w) h1 h2 h3) ?_
  intro _ e_
  obtain rfl := e_.symm
  clear e_
  rw [em]
  refine ax_istore (ls' := [_, _, _, _, _, _, _]) f176_84 (Nat.le_of_ble_eq_true rfl) rfl ?_
  refine ax_aload_n f176_86 rfl ?_
  refine ax_iload_n f176_87 rfl ?_
  refine ax_iload f176_88 rfl ?_
  refine ax_cvI (rest := []) f176_90 o rfl rfl rfl rfl rfl rfl rfl rfl (c_156 o a1 h1 (by omega) (by omega)) ?_
  intro _ e_
  obtain rfl := e_.symm
  clear e_
  refine ax_aload_n f176_93 rfl ?_
  refine ax_iload_n f176_94 rfl ?_
  refine ax_iload f176_95 rfl ?_
  refine ax_cvI (rest := [_]) f176_97 o rfl rfl rfl rfl rfl rfl rfl rfl (c_157 o a1 i.1.2.1 h1 (by omega) (by omega)) ?_
  intro _ e_
  obtain rfl := e_.symm
  clear e_
  refine ax_isub f176_100 ?_
  rw [es]
  refine ax_istore (ls' := [_, _, _, _, _, _, _]) f176_101 (Nat.le_of_ble_eq_true rfl) rfl ?_
  refine ax_iload_n f176_103 rfl ?_
  refine ax_iload f176_104 rfl ?_
  refine ax_icmp_le f176_106 rfl ⟨by omega, by omega⟩ ⟨by omega, by omega⟩ (fun q106 => ?_) (fun q106 => absurd q106 (by omega))
  refine ax_iload f176_120 rfl ?_
  refine ax_if_le f176_122 rfl ⟨by omega, by omega⟩ (fun q122 => absurd q122 (by omega)) (fun q122 => ?_)
  refine ax_aload_n f176_125 rfl ?_
  refine ax_iload_n f176_126 rfl ?_
  refine ax_iload f176_127 rfl ?_
  refine ax_iload f176_129 rfl ?_
  refine ax_cvV (rest := []) f176_131 o rfl rfl rfl rfl rfl rfl rfl rfl (c_175 o (by omega) a7 a8 a9) ?_
  rintro h51 ⟨o5, a75, a85, a95, f5⟩
  have o : Mo h51 _ _ _ _ _ _ _ _ := o5
  have a1 := a1.fr f5 (by omega)
  have a7 := a75
  have a8 := a85
  have a9 := a95
  have F := F.trans (f5.mono fun x e => by omega)
  refine ax_return f176_134 rfl ?_
  exact ⟨rfl, o, a7, a8, a9, F⟩
theorem sr_c {R : Int → Int} {w : Int} {f : Nat} {a b l lk m ls : Int} {F : Int → Int} (e1 : ¬ l = bok R a b) (e2 : ¬ b - a = 1) (em : hlf (vl R w) a b = m) (es : bok R a m - fld R a m = ls) : sr R w (f + 1) a b l lk F = if ls < l then sr R w f m b (l - ls) (if 0 < ls then sr R w f a m ls (lk + 1) F else (lk + 1, F)).1 (if 0 < ls then sr R w f a m ls (lk + 1) F else (lk + 1, F)).2 else (if 0 < ls then sr R w f a m ls (lk + 1) F else (lk + 1, F)) := by
  rw [sr_step R w f a b l lk F e1 e2, em, es]
/-- the stack below its top is as it was -/
def blw (g g' : Int → Int) (k : Int) : Prop := ∀ j, 0 ≤ j → j < k → g' j = g j
theorem blw.rf {g : Int → Int} {k : Int} : blw g g k := fun _ _ _ => rfl
theorem blw.uz {g g' : Int → Int} {k v : Int} (a : blw g g' k) : blw g (uZ g' k v) k := fun j j1 j2 => by rw [uZ_n (by omega)]; exact a j j1 j2
theorem blw.up {g g' : Int → Int} {k k' : Int} (a : blw g g' k') (h : k ≤ k') : blw g g' k := fun j j1 j2 => a j j1 (by omega)
theorem blw.tr {g g' g'' : Int → Int} {k : Int} (a : blw g g' k) (b : blw g' g'' k) : blw g g'' k := fun j j1 j2 => (b j j1 j2).trans (a j j1 j2)
theorem lp_177 {d : Nat} {Q : am_R → am_H → Prop} {R : Int → Int} {c th le sp fi se w : Int} {x1 x2 x3 : Value} (i : inv R) (hw : w = 0 ∨ w = 1 ∨ w = 2) : ∀ (f : Nat) {h : am_H} {lk k x y l : Int} {F g g7 g8 g9 : Int → Int} (o : Mo h c th lk (k + 1) le sp fi se) (a1 : oI h 121 270 R) (a6 : oA 2 h 126 48 g) (hg : ∀ j, 0 ≤ j → j < 48 → g j = F j) (a7 : oI h 127 64 g7) (a8 : oI h 128 64 g8) (a9 : oI h 129 64 g9) (t7 : g7 k = x) (t8 : g8 k = y) (t9 : g9 k = l) (h1 : 0 ≤ x) (h2 : x < y) (h3 : y ≤ 48) (h4 : y - x ≤ f) (h5 : 0 ≤ k ∧ k + (y - x) ≤ 62) (h6 : 0 < l ∧ l ≤ 10000) (hF1 : f01 F) (hF0 : ∀ j, x ≤ j → j < y → F j = 0), (∀ (h' : am_H) (F' g7' g8' g9' : Int → Int), Mo h' c th (sr R w f x y l lk F).1 k le sp fi se → oA 2 h' 126 48 F' → (∀ j, 0 ≤ j → j < 48 → F' j = (sr R w f x y l lk F).2 j) → oI h' 127 64 g7' → oI h' 128 64 g8' → oI h' 129 64 g9' → blw g7 g7' k ∧ blw g8 g8' k ∧ blw g9 g9' k → fr (fun x => x = 120 ∨ x = 126 ∨ x = 127 ∨ x = 128 ∨ x = 129) h h' → am_X (d + 6) 177 16 [.ref 120, x1, x2, x3, .int (iI w)] [] h' Q) → am_X (d + 6) 177 16 [.ref 120, x1, x2, x3, .int (iI w)] [] h Q
  | 0, h, lk, k, x, y, l, F, g, g7, g8, g9, o, a1, a6, hg, a7, a8, a9, t7, t8, t9, h1, h2, h3, h4, h5, h6, hF1, hF0, kk => by omega
  | f + 1, h, lk, k, x, y, l, F, g, g7, g8, g9, o, a1, a6, hg, a7, a8, a9, t7, t8, t9, h1, h2, h3, h4, h5, h6, hF1, hF0, kk => by
    have F00 : True := trivial
    refine ax_aload_n f177_16 rfl ?_
    refine ax_getf f177_17 o rfl ?_
    refine ax_if_le f177_20 rfl ⟨by omega, by omega⟩ (fun q20 => absurd q20 (by omega)) (fun q20 => ?_)
    refine ax_aload_n f177_23 rfl ?_
    refine ax_dup f177_24 rfl ?_
    refine ax_getf f177_25 o rfl ?_
    refine ax_iconst f177_28 ?_
    refine ax_isub f177_29 ?_
    refine ax_putfO f177_30 o rfl rfl rfl rfl (fun hp1 o1 r1 => ?_)
    have o : Mo hp1 _ _ _ _ _ _ _ _ := o1
    have a1 := a1.fr r1 (by omega)
    have a6 := a6.fr r1 (by omega)
    have a7 := a7.fr r1 (by omega)
    have a8 := a8.fr r1 (by omega)
    have a9 := a9.fr r1 (by omega)
    have o : Mo hp1 c th lk k le sp fi se := by
      have e : k + 1 - 1 = k := by omega
      rw [e] at o; exact o
    refine ax_aload_n f177_33 rfl ?_
    refine ax_aload_n f177_34 rfl ?_
    refine ax_getf f177_35 o rfl ?_
    refine ax_aload_n f177_38 rfl ?_
    refine ax_getf f177_39 o rfl ?_
    refine ax_ialdO f177_42 (by decide) a7 (by omega) (by omega) rfl ?_
    rw [t7]
    refine ax_aload_n f177_43 rfl ?_
    refine ax_getf f177_44 o rfl ?_
    refine ax_aload_n f177_47 rfl ?_
    refine ax_getf f177_48 o rfl ?_
    refine ax_ialdO f177_51 (by decide) a8 (by omega) (by omega) rfl ?_
    rw [t8]
    refine ax_aload_n f177_52 rfl ?_
    refine ax_getf f177_53 o rfl ?_
    refine ax_aload_n f177_56 rfl ?_
    refine ax_getf f177_57 o rfl ?_
    refine ax_ialdO f177_60 (by decide) a9 (by omega) (by omega) rfl ?_
    rw [t9]
    refine ax_iload f177_61 rfl ?_
    have F0 := r1.mono (T := fun x => x = 120 ∨ x = 126 ∨ x = 127 ∨ x = 128 ∨ x = 129) (fun x e => by omega)
    by_cases e1 : l = bok R x y
    · refine ax_cvV (rest := []) f177_63 o rfl rfl rfl rfl rfl rfl rfl rfl ((c_176_1 o a1 hw i h1 h2 h3 (by omega) a6 e1)) ?_
      rintro h8 ⟨a68, f8⟩
      have o : Mo h8 _ _ _ _ _ _ _ _ := f8.at (q := 120) (by omega) o
      have a1 := a1.fr f8 (by omega)
      have a6 := a68
      have a7 := a7.fr f8 (by omega)
      have a8 := a8.fr f8 (by omega)
      have a9 := a9.fr f8 (by omega)
      have F0 := F0.trans (f8.mono fun x e => by omega)
      refine ax_goto f177_66 rfl ?_
      refine kk h8 _ _ _ _ ?_ a6 ?_ a7 a8 a9 ⟨blw.rf, blw.rf, blw.rf⟩ F0
      · rw [sr_1 e1]; exact o
      · intro j j1 j2
        rw [sr_1 e1]
        show _ = if _ then _ else _
        split
        · rfl
        · exact hg j j1 j2
    by_cases e2 : y - x = 1
    · have hFx : g x = 0 := by rw [hg x (by omega) (by omega)]; exact hF0 x (by omega) (by omega)
      refine ax_cvV (rest := []) f177_63 o rfl rfl rfl rfl rfl rfl rfl rfl ((c_176_2 o a1 hw i h1 h2 h3 (by omega) a6 hFx e1 e2)) ?_
      rintro h8 ⟨o8, a68, f8⟩
      have o : Mo h8 _ _ _ _ _ _ _ _ := o8
      have a1 := a1.fr f8 (by omega)
      have a6 := a68
      have a7 := a7.fr f8 (by omega)
      have a8 := a8.fr f8 (by omega)
      have a9 := a9.fr f8 (by omega)
      have F0 := F0.trans (f8.mono fun x e => by omega)
      refine ax_goto f177_66 rfl ?_
      refine kk h8 _ _ _ _ ?_ a6 ?_ a7 a8 a9 ⟨blw.rf, blw.rf, blw.rf⟩ F0
      · rw [sr_2 e1 e2]; exact o
      · intro j j1 j2
        rw [sr_2 e1 e2]
        by_cases hx : R (48 + x) = 1
        · simp only [if_pos hx]
          unfold uZ
          split
          · rfl
          · exact hg j j1 j2
        · simp only [if_neg hx]
          exact hg j j1 j2
    obtain ⟨m, em⟩ : ∃ m, hlf (vl R w) x y = m := ⟨_, rfl⟩
    obtain ⟨ls, es⟩ : ∃ ls, bok R x m - fld R x m = ls := ⟨_, rfl⟩
    have hm := hlf_in (vl R w) (a := x) (b := y) (by omega)
    rw [em] at hm
    have hk2 := bok_in i.1.1 h1 (show x ≤ m by omega) (by omega)
    have hk3 := fld_in i.1.1 h1 (show x ≤ m by omega) (by omega)
    have es0 : 0 ≤ ls ∧ ls ≤ 5000 := by omega
    have hsr := sr_c (f := f) (lk := lk) (F := F) e1 e2 em es
    by_cases q1 : ls < l
    · by_cases q2 : 0 < ls
      · rw [if_pos q1, if_pos q2] at hsr
        refine ax_cvV (rest := []) f177_63 o rfl rfl rfl rfl rfl rfl rfl rfl ((c_176_3a o a1 hw i h1 h2 h3 (by omega) a7 a8 a9 (by omega) e1 e2 em es q1 q2)) ?_
        rintro h8 ⟨o8, a78, a88, a98, f8⟩
        have o : Mo h8 _ _ _ _ _ _ _ _ := o8
        have a1 := a1.fr f8 (by omega)
        have a6 := a6.fr f8 (by omega)
        have a7 := a78
        have a8 := a88
        have a9 := a98
        have F0 := F0.trans (f8.mono fun x e => by omega)
        refine ax_goto f177_66 rfl ?_
        have hsp := sr_sp R w f x m ls (lk + 1) F (by omega) (by omega) hF1
        refine lp_177 i hw f (F := F) (k := k + 1) (x := x) (y := m) (l := ls) (lk := lk + 1) o a1 a6 hg a7 a8 a9 uZ_s uZ_s uZ_s h1 (by omega) (by omega) (by omega) (by omega) (by omega) hF1 (fun j j1 j2 => hF0 j j1 (by omega)) ?_
        intro h6 F6 g76 g86 g96 o a6 hg6 a7 a8 a9 hbl f6
        have a1 := a1.fr f6 (by omega)
        have F0 := F0.trans f6
        refine lp_177 i hw f (F := (sr R w f x m ls (lk + 1) F).2) (k := k) (x := m) (y := y) (l := l - ls) (lk := (sr R w f x m ls (lk + 1) F).1) o a1 a6 hg6 a7 a8 a9 ?_ ?_ ?_ (by omega) (by omega) (by omega) (by omega) (by omega) (by omega) hsp.1 ?_ ?_
        · rw [hbl.1 k (by omega) (by omega), uZ_n (by omega), uZ_s]
        · rw [hbl.2.1 k (by omega) (by omega), uZ_n (by omega), uZ_s]
        · rw [hbl.2.2 k (by omega) (by omega), uZ_n (by omega), uZ_s]
        · intro j j1 j2
          rw [hsp.2.1 j (by omega)]
          exact hF0 j (by omega) j2
        · intro h5 F5 g75 g85 g95 o a6 hg5 a7 a8 a9 hbl5 f5
          refine kk h5 _ _ _ _ ?_ a6 ?_ a7 a8 a9 ⟨?_, ?_, ?_⟩ (F0.trans f5)
          · rw [hsr]; exact o
          · rw [hsr]; exact hg5
          · exact ((blw.rf.uz).tr ((blw.rf.uz).up (by omega))).tr ((hbl.1.up (by omega)).tr hbl5.1)
          · exact ((blw.rf.uz).tr ((blw.rf.uz).up (by omega))).tr ((hbl.2.1.up (by omega)).tr hbl5.2.1)
          · exact ((blw.rf.uz).tr ((blw.rf.uz).up (by omega))).tr ((hbl.2.2.up (by omega)).tr hbl5.2.2)
      · rw [if_pos q1, if_neg q2] at hsr
        refine ax_cvV (rest := []) f177_63 o rfl rfl rfl rfl rfl rfl rfl rfl ((c_176_3b o a1 hw i h1 h2 h3 (by omega) a7 a8 a9 (by omega) e1 e2 em es q1 q2)) ?_
        rintro h8 ⟨o8, a78, a88, a98, f8⟩
        have o : Mo h8 _ _ _ _ _ _ _ _ := o8
        have a1 := a1.fr f8 (by omega)
        have a6 := a6.fr f8 (by omega)
        have a7 := a78
        have a8 := a88
        have a9 := a98
        have F0 := F0.trans (f8.mono fun x e => by omega)
        refine ax_goto f177_66 rfl ?_
        refine lp_177 i hw f (F := F) (k := k) (x := m) (y := y) (l := l - ls) (lk := lk + 1) o a1 a6 hg a7 a8 a9 uZ_s uZ_s uZ_s (by omega) (by omega) (by omega) (by omega) (by omega) (by omega) hF1 (fun j j1 j2 => hF0 j (by omega) j2) ?_
        intro h5 F5 g75 g85 g95 o a6 hg5 a7 a8 a9 hbl5 f5
        refine kk h5 _ _ _ _ ?_ a6 ?_ a7 a8 a9 ⟨(blw.rf.uz).tr hbl5.1, (blw.rf.uz).tr hbl5.2.1, (blw.rf.uz).tr hbl5.2.2⟩ (F0.trans f5)
        · rw [hsr]; exact o
        · rw [hsr]; exact hg5
    · have q2 : 0 < ls := by omega
      rw [if_neg q1, if_pos q2] at hsr
      refine ax_cvV (rest := []) f177_63 o rfl rfl rfl rfl rfl rfl rfl rfl ((c_176_3c o a1 hw i h1 h2 h3 (by omega) a7 a8 a9 (by omega) e1 e2 em es q1 q2)) ?_
      rintro h8 ⟨o8, a78, a88, a98, f8⟩
      have o : Mo h8 _ _ _ _ _ _ _ _ := o8
      have a1 := a1.fr f8 (by omega)
      have a6 := a6.fr f8 (by omega)
      have a7 := a78
      have a8 := a88
      have a9 := a98
      have F0 := F0.trans (f8.mono fun x e => by omega)
      refine ax_goto f177_66 rfl ?_
      refine lp_177 i hw f (F := F) (k := k) (x := x) (y := m) (l := ls) (lk := lk + 1) o a1 a6 hg a7 a8 a9 uZ_s uZ_s uZ_s h1 (by omega) (by omega) (by omega) (by omega) (by omega) hF1 (fun j j1 j2 => hF0 j j1 (by omega)) ?_
      intro h5 F5 g75 g85 g95 o a6 hg5 a7 a8 a9 hbl5 f5
      refine kk h5 _ _ _ _ ?_ a6 ?_ a7 a8 a9 ⟨(blw.rf.uz).tr hbl5.1, (blw.rf.uz).tr hbl5.2.1, (blw.rf.uz).tr hbl5.2.2⟩ (F0.trans f5)
      · rw [hsr]; exact o
      · rw [hsr]; exact hg5
def srb (R : Int → Int) (w x y l lk : Int) (F : Int → Int) : Int × (Int → Int) := if 0 < l then sr R w 48 x y l lk F else (lk, F)
theorem c_177 {h : am_H} {R : Int → Int} {c th lk pa le sp fi se : Int} (o : Mo h c th lk pa le sp fi se) (a1 : oI h 121 270 R) {x y l w : Int} (hw : w = 0 ∨ w = 1 ∨ w = 2) (i : inv R) (h1 : 0 ≤ x) (h2 : x < y) (h3 : y ≤ 48) (hl : -10000 ≤ l ∧ l ≤ 10000) {F0 g g7 g8 g9 : Int → Int} (a6 : oA 2 h 126 48 g) (hg : ∀ j, 0 ≤ j → j < 48 → g j = F0 j) (a7 : oI h 127 64 g7) (a8 : oI h 128 64 g8) (a9 : oI h 129 64 g9) (hF1 : f01 F0) (hF0 : ∀ j, x ≤ j → j < y → F0 j = 0) : am_X 6 177 0 (am_ent 177 [.ref 120, .int (iI x), .int (iI y), .int (iI l), .int (iI w)]) [] h (fun r h' => rV r ∧ Mo h' c th (srb R w x y l lk F0).1 0 le sp fi se ∧ (∃ g', oA 2 h' 126 48 g' ∧ ∀ j, 0 ≤ j → j < 48 → g' j = (srb R w x y l lk F0).2 j) ∧ ((∃ g, oI h' 127 64 g) ∧ (∃ g, oI h' 128 64 g) ∧ ∃ g, oI h' 129 64 g) ∧ fr (fun x => x = 120 ∨ x = 126 ∨ x = 127 ∨ x = 128 ∨ x = 129) h h') := by
  show am_X 6 177 0 [.ref 120, .int (iI x), .int (iI y), .int (iI l), .int (iI w)] [] h _
  have F : fr (fun x => x = 120 ∨ x = 126 ∨ x = 127 ∨ x = 128 ∨ x = 129) h h := fr_rf
  refine ax_aload_n f177_0 rfl ?_
  refine ax_iconst f177_1 ?_
  refine ax_putfO f177_2 o rfl rfl rfl rfl (fun hp1 o1 r1 => ?_)
  have o : Mo hp1 _ _ _ _ _ _ _ _ := o1
  have a1 := a1.fr r1 (by omega)
  have a6 := a6.fr r1 (by omega)
  have a7 := a7.fr r1 (by omega)
  have a8 := a8.fr r1 (by omega)
  have a9 := a9.fr r1 (by omega)
  have F := F.trans (r1.mono fun x e => by omega)
  refine ax_iload_n f177_5 rfl ?_
  refine ax_if_le f177_6 rfl ⟨by omega, by omega⟩ (fun q6 => ?_) (fun q6 => ?_)
  · refine ax_aload_n f177_16 rfl ?_
    refine ax_getf f177_17 o rfl ?_
    refine ax_if_le f177_20 rfl ⟨by omega, by omega⟩ (fun q20 => ?_) (fun q20 => absurd q20 (by omega))
    refine ax_return f177_69 rfl ?_
    refine ⟨rfl, ?_, ⟨_, a6, ?_⟩, ⟨⟨_, a7⟩, ⟨_, a8⟩, ⟨_, a9⟩⟩, F⟩
    · unfold srb; rw [if_neg (by omega)]; exact o
    · unfold srb; rw [if_neg (by omega)]; exact hg
  · refine ax_aload_n f177_9 rfl ?_
    refine ax_iload_n f177_10 rfl ?_
    refine ax_iload_n f177_11 rfl ?_
    refine ax_iload_n f177_12 rfl ?_
    refine ax_cvV (rest := []) f177_13 o rfl rfl rfl rfl rfl rfl rfl rfl (c_175 o (by omega) a7 a8 a9) ?_
    rintro h52 ⟨o5, a75, a85, a95, f5⟩
    have o : Mo h52 _ _ _ _ _ _ _ _ := o5
    have a1 := a1.fr f5 (by omega)
    have a6 := a6.fr f5 (by omega)
    have a7 := a75
    have a8 := a85
    have a9 := a95
    have F := F.trans (f5.mono fun x e => by omega)
    refine lp_177 (d := 0) i hw 48 (F := F0) (k := 0) (x := x) (y := y) (l := l) (lk := lk) o a1 a6 hg a7 a8 a9 uZ_s uZ_s uZ_s h1 h2 h3 (by omega) (by omega) (by omega) hF1 hF0 ?_
    intro h5 F5 g75 g85 g95 o a6 hg5 a7 a8 a9 hbl5 f5
    have F := F.trans f5
    refine ax_aload_n f177_16 rfl ?_
    refine ax_getf f177_17 o rfl ?_
    refine ax_if_le f177_20 rfl ⟨by omega, by omega⟩ (fun q20 => ?_) (fun q20 => absurd q20 (by omega))
    refine ax_return f177_69 rfl ?_
    refine ⟨rfl, ?_, ⟨_, a6, ?_⟩, ⟨⟨_, a7⟩, ⟨_, a8⟩, ⟨_, a9⟩⟩, F⟩
    · unfold srb; rw [if_pos (by omega)]; exact o
    · unfold srb; rw [if_pos (by omega)]; exact hg5
end MSE
