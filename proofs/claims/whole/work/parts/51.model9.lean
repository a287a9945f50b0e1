/-! ===== the reference: how many looks it takes, sums, the best way ===== -/
section MLK
theorem lp_212 {d : Nat} {h : am_H} {Q : am_R → am_H → Prop} {R : Int → Int} {c th lk pa le sp fi se : Int} (o : Mo h c th lk pa le sp fi se) (a1 : oI h 121 270 R) {r w : Int} {x2 x3 : Value} (hw : w = 0 ∨ w = 1 ∨ w = 2) (iv : ival (vl R w) 0 48) (hr : inI r) : ∀ (f : Nat) (x y mn : Int) {x8 : Value}, 0 ≤ x → x < y → y ≤ 48 → y - x ≤ f → f ≤ 48 → (Q (.inl (some (.int (iI (mn + hvn (vl R w) r f x y))))) h) → am_X (d + 3) 212 9 [.ref 120, .int (iI r), x2, x3, .int (iI w), .int (iI x), .int (iI y), .int (iI mn), x8] [] h Q
  | 0, x, y, mn, x8, h1, h2, h3, h4, h5, k => by omega
  | f + 1, x, y, mn, x8, h1, h2, h3, h4, h5, k => by
    obtain ⟨hr1, hr2⟩ := id hr
    refine ax_iload f212_9 rfl ?_
    refine ax_iload f212_11 rfl ?_
    refine ax_isub f212_13 ?_
    refine ax_iconst f212_14 ?_
    refine ax_icmp_le f212_15 rfl ⟨by omega, by omega⟩ ⟨by omega, by omega⟩ (fun q15 => ?_) (fun q15 => ?_)
    · refine ax_iload f212_66 rfl ?_
      refine ax_ireturn f212_68 rfl rfl ?_
      have e : hvn (vl R w) r (f + 1) x y = 0 := by
        show (if _ then _ else _) = _
        rw [if_pos (by omega)]
      rw [e, Int.add_zero] at k
      exact k
    · refine ax_aload_n f212_18 rfl ?_
      refine ax_iload f212_19 rfl ?_
      refine ax_iload f212_21 rfl ?_
      refine ax_iload f212_23 rfl ?_
      refine ax_cvI (rest := []) f212_25 o rfl rfl rfl rfl rfl rfl rfl rfl (c_174 o a1 hw iv h1 h2 h3) ?_
      intro _ e_
      obtain rfl := e_.symm
      clear e_
      have hm := hlf_in (vl R w) (a := x) (b := y) (by omega)
      refine ax_istore (ls' := [_, _, _, _, _, _, _, _, _]) f212_28 (Nat.le_of_ble_eq_true rfl) rfl ?_
      refine ax_iload_n f212_30 rfl ?_
      refine ax_iload f212_31 rfl ?_
      refine ax_icmp_ge f212_33 rfl ⟨by omega, by omega⟩ ⟨by omega, by omega⟩ (fun q33 => ?_) (fun q33 => ?_)
      · refine ax_iload f212_41 rfl ?_
        refine ax_istore (ls' := [_, _, _, _, _, _, _, _, _]) f212_43 (Nat.le_of_ble_eq_true rfl) rfl ?_
        refine ax_iload_n f212_45 rfl ?_
        refine ax_iload f212_46 rfl ?_
        refine ax_icmp_ge f212_48 rfl ⟨by omega, by omega⟩ ⟨by omega, by omega⟩ (fun q48 => ?_) (fun q48 => absurd q48 (by omega))
        refine ax_iload f212_56 rfl ?_
        refine ax_istore (ls' := [_, _, _, _, _, _, _, _, _]) f212_58 (Nat.le_of_ble_eq_true rfl) rfl ?_
        refine ax_iinc (ls' := [_, _, _, _, _, _, _, _, _]) f212_60 rfl (Nat.le_of_ble_eq_true rfl) rfl ?_
        refine ax_goto f212_63 rfl ?_
        refine lp_212 o a1 hw iv hr f (hlf (vl R w) x y) y (mn + 1) (x8 := .int (iI (hlf (vl R w) x y))) (by omega) (by omega) (by omega) (by omega) (by omega) ?_
        have e : hvn (vl R w) r (f + 1) x y = 1 + hvn (vl R w) r f (hlf (vl R w) x y) y := by
          show (if _ then _ else _) = _
          rw [if_neg (by omega), if_neg (by omega)]
        rw [e, ← Int.add_assoc] at k
        exact k
      · refine ax_iload f212_36 rfl ?_
        refine ax_goto f212_38 rfl ?_
        refine ax_istore (ls' := [_, _, _, _, _, _, _, _, _]) f212_43 (Nat.le_of_ble_eq_true rfl) rfl ?_
        refine ax_iload_n f212_45 rfl ?_
        refine ax_iload f212_46 rfl ?_
        refine ax_icmp_ge f212_48 rfl ⟨by omega, by omega⟩ ⟨by omega, by omega⟩ (fun q48 => absurd q48 (by omega)) (fun q48 => ?_)
        refine ax_iload f212_51 rfl ?_
        refine ax_goto f212_53 rfl ?_
        refine ax_istore (ls' := [_, _, _, _, _, _, _, _, _]) f212_58 (Nat.le_of_ble_eq_true rfl) rfl ?_
        refine ax_iinc (ls' := [_, _, _, _, _, _, _, _, _]) f212_60 rfl (Nat.le_of_ble_eq_true rfl) rfl ?_
        refine ax_goto f212_63 rfl ?_
        refine lp_212 o a1 hw iv hr f x (hlf (vl R w) x y) (mn + 1) (x8 := .int (iI (hlf (vl R w) x y))) (by omega) (by omega) (by omega) (by omega) (by omega) ?_
        have e : hvn (vl R w) r (f + 1) x y = 1 + hvn (vl R w) r f x (hlf (vl R w) x y) := by
          show (if _ then _ else _) = _
          rw [if_neg (by omega), if_pos (by omega)]
        rw [e, ← Int.add_assoc] at k
        exact k
theorem c_212 {h : am_H} {R : Int → Int} {c th lk pa le sp fi se : Int} (o : Mo h c th lk pa le sp fi se) (a1 : oI h 121 270 R) {z x y w : Int} (hw : w = 0 ∨ w = 1 ∨ w = 2) (iv : ival (vl R w) 0 48) (hr : inI z) (h1 : 0 ≤ x) (h2 : x < y) (h3 : y ≤ 48) : am_X 3 212 0 (am_ent 212 [.ref 120, .int (iI z), .int (iI x), .int (iI y), .int (iI w)]) [] h (fun r h' => rI r (own (vl R w) x y z) ∧ h' = h) := by
  show am_X 3 212 0 [.ref 120, .int (iI z), .int (iI x), .int (iI y), .int (iI w), am_u, am_u, am_u, am_u] [] h _
  refine ax_iload_n f212_0 rfl ?_
  refine ax_istore (ls' := [_, _, _, _, _, _, _, _, _]) f212_1 (Nat.le_of_ble_eq_true rfl) rfl ?_
  refine ax_iload_n f212_3 rfl ?_
  refine ax_istore (ls' := [_, _, _, _, _, _, _, _, _]) f212_4 (Nat.le_of_ble_eq_true rfl) rfl ?_
  refine ax_iconst f212_6 ?_
  refine ax_istore (ls' := [_, _, _, _, _, _, _, _, _]) f212_7 (Nat.le_of_ble_eq_true rfl) rfl ?_
  exact lp_212 (d := 0) o a1 hw iv hr 48 x y 0 (by omega) (by omega) (by omega) (by omega) (by omega) ⟨rI_of (Int.zero_add _), rfl⟩
theorem lp_213 {d : Nat} {h : am_H} {Q : am_R → am_H → Prop} {R : Int → Int} {c th lk pa le sp fi se : Int} (o : Mo h c th lk pa le sp fi se) (a1 : oI h 121 270 R) {x y w q : Int} {x1 : Value} (hw : w = 0 ∨ w = 1 ∨ w = 2) (iv : ival (vl R w) 0 48) (hxy : 0 ≤ x ∧ x < y ∧ y ≤ 48) : ∀ (n : Nat) (mo al r : Int) {x9 : Value}, r + n = y → x ≤ r → 0 ≤ mo ∧ mo ≤ 48 → (∀ {x9 : Value}, am_X (d + 4) 213 88 [.ref 120, x1, .int (iI w), .int (iI q), .int (iI x), .int (iI y), .int (iI (lkf (vl R w) R x y mo al r n).1), .int (iI (lkf (vl R w) R x y mo al r n).2), .int (iI y), x9] [] h Q) → am_X (d + 4) 213 26 [.ref 120, x1, .int (iI w), .int (iI q), .int (iI x), .int (iI y), .int (iI mo), .int (iI al), .int (iI r), x9] [] h Q
  | 0, mo, al, r, x9, h1, h2, h3, k => by
    have h1 : r = y := by omega
    subst h1
    refine ax_iload f213_26 rfl ?_
    refine ax_iload f213_28 rfl ?_
    refine ax_icmp_ge f213_30 rfl ⟨by omega, by omega⟩ ⟨by omega, by omega⟩ (fun q30 => ?_) (fun q30 => absurd q30 (by omega))
    exact k
  | n + 1, mo, al, r, x9, h1, h2, h3, k => by
    refine ax_iload f213_26 rfl ?_
    refine ax_iload f213_28 rfl ?_
    refine ax_icmp_ge f213_30 rfl ⟨by omega, by omega⟩ ⟨by omega, by omega⟩ (fun q30 => absurd q30 (by omega)) (fun q30 => ?_)
    refine ax_aload_n f213_33 rfl ?_
    refine ax_iload f213_34 rfl ?_
    refine ax_iload f213_36 rfl ?_
    refine ax_iload f213_38 rfl ?_
    refine ax_iload_n f213_40 rfl ?_
    refine ax_cvI (rest := []) f213_41 o rfl rfl rfl rfl rfl rfl rfl rfl (c_212 o a1 hw iv ⟨by omega, by omega⟩ (by omega) (by omega) (by omega)) ?_
    intro _ e_
    obtain rfl := e_.symm
    clear e_
    have ho := hvn_in (vl R w) r 48 x y
    have ho : 0 ≤ own (vl R w) x y r ∧ own (vl R w) x y r ≤ 48 := ho
    refine ax_istore (ls' := [_, _, _, _, _, _, _, _, _, _]) f213_44 (Nat.le_of_ble_eq_true rfl) rfl ?_
    refine ax_iload f213_46 rfl ?_
    refine ax_iload f213_48 rfl ?_
    refine ax_icmp_le f213_50 rfl ⟨by omega, by omega⟩ ⟨by omega, by omega⟩ (fun q50 => ?_) (fun q50 => ?_)
    · refine ax_iload f213_58 rfl ?_
      refine ax_istore (ls' := [_, _, _, _, _, _, _, _, _, _]) f213_60 (Nat.le_of_ble_eq_true rfl) rfl ?_
      refine ax_iload f213_62 rfl ?_
      refine ax_iload f213_64 rfl ?_
      refine ax_aload_n f213_66 rfl ?_
      refine ax_getf f213_67 o rfl ?_
      refine ax_bipush f213_70 ?_
      refine ax_iload f213_72 rfl ?_
      refine ax_iadd f213_74 ?_
      refine ax_ialdO f213_75 (by decide) a1 (by omega) (by omega) rfl ?_
      refine ax_iconst f213_76 ?_
      refine ax_iadd f213_77 ?_
      refine ax_imul f213_78 ?_
      refine ax_iadd f213_79 ?_
      refine ax_istore (ls' := [_, _, _, _, _, _, _, _, _, _]) f213_80 (Nat.le_of_ble_eq_true rfl) rfl ?_
      refine ax_iinc (ls' := [_, _, _, _, _, _, _, _, _, _]) f213_82 rfl (Nat.le_of_ble_eq_true rfl) rfl ?_
      refine ax_goto f213_85 rfl ?_
      refine lp_213 o a1 hw iv hxy n mo _ (r + 1) (by omega) (by omega) (by omega) ?_
      intro x9
      have k := @k x9
      have e : lkf (vl R w) R x y mo al r (n + 1) = lkf (vl R w) R x y mo (al + own (vl R w) x y r * (R (96 + r) + 1)) (r + 1) n := by
        show lkf (vl R w) R x y (if _ then _ else _) _ _ _ = _
        rw [if_neg (by omega)]
      rw [e] at k
      exact k
    · refine ax_iload f213_53 rfl ?_
      refine ax_goto f213_55 rfl ?_
      refine ax_istore (ls' := [_, _, _, _, _, _, _, _, _, _]) f213_60 (Nat.le_of_ble_eq_true rfl) rfl ?_
      refine ax_iload f213_62 rfl ?_
      refine ax_iload f213_64 rfl ?_
      refine ax_aload_n f213_66 rfl ?_
      refine ax_getf f213_67 o rfl ?_
      refine ax_bipush f213_70 ?_
      refine ax_iload f213_72 rfl ?_
      refine ax_iadd f213_74 ?_
      refine ax_ialdO f213_75 (by decide) a1 (by omega) (by omega) rfl ?_
      refine ax_iconst f213_76 ?_
      refine ax_iadd f213_77 ?_
      refine ax_imul f213_78 ?_
      refine ax_iadd f213_79 ?_
      refine ax_istore (ls' := [_, _, _, _, _, _, _, _, _, _]) f213_80 (Nat.le_of_ble_eq_true rfl) rfl ?_
      refine ax_iinc (ls' := [_, _, _, _, _, _, _, _, _, _]) f213_82 rfl (Nat.le_of_ble_eq_true rfl) rfl ?_
      refine ax_goto f213_85 rfl ?_
      refine lp_213 o a1 hw iv hxy n (own (vl R w) x y r) _ (r + 1) (by omega) (by omega) (by omega) ?_
      intro x9
      have k := @k x9
      have e : lkf (vl R w) R x y mo al r (n + 1) = lkf (vl R w) R x y (own (vl R w) x y r) (al + own (vl R w) x y r * (R (96 + r) + 1)) (r + 1) n := by
        show lkf (vl R w) R x y (if _ then _ else _) _ _ _ = _
        rw [if_pos (by omega)]
      rw [e] at k
      exact k
theorem c_213 {h : am_H} {R : Int → Int} {c th lk pa le sp fi se : Int} (o : Mo h c th lk pa le sp fi se) (a1 : oI h 121 270 R) (i : inv R) {n w0 q0 : Int} (hw : w0 = 0 ∨ w0 = 1 ∨ w0 = 2) (h0 : 0 ≤ n ∧ n < blk R) (h1 : 0 ≤ q0 ∧ q0 ≤ 1) : am_X 4 213 0 (am_ent 213 [.ref 120, .int (iI n), .int (iI w0), .int (iI q0)]) [] h (fun r h' => rI r (if q0 = 0 then (lkb R w0 n).1 else (lkb R w0 n).2) ∧ h' = h) := by
  show am_X 4 213 0 [.ref 120, .int (iI n), .int (iI w0), .int (iI q0), am_u, am_u, am_u, am_u, am_u, am_u] [] h _
  obtain ⟨b1, b2, b3⟩ := fro_lt i.ff h0.1 h0.2
  have b4 := (fro_sp i.ff n).1
  have b5 := (fro_sp i.ff (n + 1)).2.1
  have hb := i.b12
  rcases (show q0 = 0 ∨ q0 = 1 by omega) with rfl | rfl
  · refine ax_aload_n f213_0 rfl ?_
    refine ax_iload_n f213_1 rfl ?_
    refine ax_cvI (rest := []) f213_2 o rfl rfl rfl rfl rfl rfl rfl rfl (c_154 o a1 i.ff i.b12 ⟨by omega, by omega⟩) ?_
    intro _ e_
    obtain rfl := e_.symm
    clear e_
    refine ax_istore (ls' := [_, _, _, _, _, _, _, _, _, _]) f213_5 (Nat.le_of_ble_eq_true rfl) rfl ?_
    refine ax_aload_n f213_7 rfl ?_
    refine ax_iload_n f213_8 rfl ?_
    refine ax_iconst f213_9 ?_
    refine ax_iadd f213_10 ?_
    refine ax_cvI (rest := []) f213_11 o rfl rfl rfl rfl rfl rfl rfl rfl (c_154 o a1 i.ff i.b12 ⟨by omega, by omega⟩) ?_
    intro _ e_
    obtain rfl := e_.symm
    clear e_
    refine ax_istore (ls' := [_, _, _, _, _, _, _, _, _, _]) f213_14 (Nat.le_of_ble_eq_true rfl) rfl ?_
    refine ax_iconst f213_16 ?_
    refine ax_istore (ls' := [_, _, _, _, _, _, _, _, _, _]) f213_17 (Nat.le_of_ble_eq_true rfl) rfl ?_
    refine ax_iconst f213_19 ?_
    refine ax_istore (ls' := [_, _, _, _, _, _, _, _, _, _]) f213_20 (Nat.le_of_ble_eq_true rfl) rfl ?_
    refine ax_iload f213_22 rfl ?_
    refine ax_istore (ls' := [_, _, _, _, _, _, _, _, _, _]) f213_24 (Nat.le_of_ble_eq_true rfl) rfl ?_
    refine lp_213 (d := 0) o a1 hw (vl_ival i w0) ⟨b4, b3, b5⟩ (fro R (n + 1) - fro R n).toNat 0 0 (fro R n) (by omega) (by omega) (by omega) ?_
    intro x9
    refine ax_iload_n f213_88 rfl ?_
    refine ax_if_ne f213_89 rfl ⟨by omega, by omega⟩ (fun q89 => absurd q89 (by omega)) (fun q89 => ?_)
    refine ax_iload f213_92 rfl ?_
    refine ax_goto f213_94 rfl ?_
    refine ax_ireturn f213_99 rfl rfl ?_
    exact ⟨rI_of rfl, rfl⟩
  · refine ax_aload_n f213_0 rfl ?_
    refine ax_iload_n f213_1 rfl ?_
    refine ax_cvI (rest := []) f213_2 o rfl rfl rfl rfl rfl rfl rfl rfl (c_154 o a1 i.ff i.b12 ⟨by omega, by omega⟩) ?_
    intro _ e_
    obtain rfl := e_.symm
    clear e_
    refine ax_istore (ls' := [_, _, _, _, _, _, _, _, _, _]) f213_5 (Nat.le_of_ble_eq_true rfl) rfl ?_
    refine ax_aload_n f213_7 rfl ?_
    refine ax_iload_n f213_8 rfl ?_
    refine ax_iconst f213_9 ?_
    refine ax_iadd f213_10 ?_
    refine ax_cvI (rest := []) f213_11 o rfl rfl rfl rfl rfl rfl rfl rfl (c_154 o a1 i.ff i.b12 ⟨by omega, by omega⟩) ?_
    intro _ e_
    obtain rfl := e_.symm
    clear e_
    refine ax_istore (ls' := [_, _, _, _, _, _, _, _, _, _]) f213_14 (Nat.le_of_ble_eq_true rfl) rfl ?_
    refine ax_iconst f213_16 ?_
    refine ax_istore (ls' := [_, _, _, _, _, _, _, _, _, _]) f213_17 (Nat.le_of_ble_eq_true rfl) rfl ?_
    refine ax_iconst f213_19 ?_
    refine ax_istore (ls' := [_, _, _, _, _, _, _, _, _, _]) f213_20 (Nat.le_of_ble_eq_true rfl) rfl ?_
    refine ax_iload f213_22 rfl ?_
    refine ax_istore (ls' := [_, _, _, _, _, _, _, _, _, _]) f213_24 (Nat.le_of_ble_eq_true rfl) rfl ?_
    refine lp_213 (d := 0) o a1 hw (vl_ival i w0) ⟨b4, b3, b5⟩ (fro R (n + 1) - fro R n).toNat 0 0 (fro R n) (by omega) (by omega) (by omega) ?_
    intro x9
    refine ax_iload_n f213_88 rfl ?_
    refine ax_if_ne f213_89 rfl ⟨by omega, by omega⟩ (fun q89 => ?_) (fun q89 => absurd q89 (by omega))
    refine ax_iload f213_97 rfl ?_
    refine ax_ireturn f213_99 rfl rfl ?_
    exact ⟨rI_of rfl, rfl⟩
theorem lp_215 {d : Nat} {h : am_H} {Q : am_R → am_H → Prop} {R : Int → Int} {c th lk pa le sp fi se : Int} (o : Mo h c th lk pa le sp fi se) (a1 : oI h 121 270 R) {V g : Int → Int} {x y : Int} (aC : oI h 131 2401 g) (iv : ival V 0 48) (hxy : 0 ≤ x ∧ x < y ∧ y ≤ 48) (hg : ∀ a b, x ≤ a → a < b → b ≤ y → b - a < y - x → g (49 * a + b) = lc V 48 a b) : ∀ (n : Nat) (acc m : Int) {x5 : Value}, m + n = y → x < m → 0 ≤ acc ∧ acc ≤ 1000000 → (∀ {x5 : Value}, am_X d 215 64 [.ref 120, .int (iI x), .int (iI y), .int (iI (mnf (fun m => lc V 48 x m + lc V 48 m y) acc m n)), .int (iI y), x5] [] h Q) → am_X d 215 7 [.ref 120, .int (iI x), .int (iI y), .int (iI acc), .int (iI m), x5] [] h Q
  | 0, acc, m, x5, h1, h2, h3, k => by
    have h1 : m = y := by omega
    subst h1
    refine ax_iload f215_7 rfl ?_
    refine ax_iload_n f215_9 rfl ?_
    refine ax_icmp_ge f215_10 rfl ⟨by omega, by omega⟩ ⟨by omega, by omega⟩ (fun q10 => ?_) (fun q10 => absurd q10 (by omega))
    exact k
  | n + 1, acc, m, x5, h1, h2, h3, k => by
    refine ax_iload f215_7 rfl ?_
    refine ax_iload_n f215_9 rfl ?_
    refine ax_icmp_ge f215_10 rfl ⟨by omega, by omega⟩ ⟨by omega, by omega⟩ (fun q10 => absurd q10 (by omega)) (fun q10 => ?_)
    refine ax_aload_n f215_13 rfl ?_
    refine ax_getf f215_14 o rfl ?_
    refine ax_bipush f215_17 ?_
    refine ax_iload_n f215_19 rfl ?_
    refine ax_imul f215_20 ?_
    refine ax_iload f215_21 rfl ?_
    refine ax_iadd f215_23 ?_
    refine ax_ialdO f215_24 (by decide) aC (by omega) (by omega) rfl ?_
    refine ax_aload_n f215_25 rfl ?_
    refine ax_getf f215_26 o rfl ?_
    refine ax_bipush f215_29 ?_
    refine ax_iload f215_31 rfl ?_
    refine ax_imul f215_33 ?_
    refine ax_iload_n f215_34 rfl ?_
    refine ax_iadd f215_35 ?_
    refine ax_ialdO f215_36 (by decide) aC (by omega) (by omega) rfl ?_
    refine ax_iadd f215_37 ?_
    rw [hg x m (by omega) (by omega) (by omega) (by omega), hg m y (by omega) (by omega) (by omega) (by omega)]
    have l1 := lc_in iv 48 x m (by omega) (by omega) (by omega)
    have l2 := lc_in iv 48 m y (by omega) (by omega) (by omega)
    refine ax_istore (ls' := [_, _, _, _, _, _]) f215_38 (Nat.le_of_ble_eq_true rfl) rfl ?_
    refine ax_iload_n f215_40 rfl ?_
    refine ax_iconst f215_41 ?_
    refine ax_icmp_eq f215_42 rfl ⟨by omega, by omega⟩ ⟨by omega, by omega⟩ (fun q42 => absurd q42 (by omega)) (fun q42 => ?_)
    refine ax_iload f215_45 rfl ?_
    refine ax_iload_n f215_47 rfl ?_
    refine ax_icmp_ge f215_48 rfl ⟨by omega, by omega⟩ ⟨by omega, by omega⟩ (fun q48 => ?_) (fun q48 => ?_)
    · refine ax_iload_n f215_56 rfl ?_
      refine ax_istore_n (ls' := [_, _, _, _, _, _]) f215_57 (Nat.le_of_ble_eq_true rfl) rfl ?_
      refine ax_iinc (ls' := [_, _, _, _, _, _]) f215_58 rfl (Nat.le_of_ble_eq_true rfl) rfl ?_
      refine ax_goto f215_61 rfl ?_
      refine lp_215 o a1 aC iv hxy hg n acc (m + 1) (x5 := .int (iI (lc V 48 x m + lc V 48 m y))) (by omega) (by omega) (by omega) ?_
      intro x9
      have k := @k x9
      have e : mnf (fun m => lc V 48 x m + lc V 48 m y) acc m (n + 1) = mnf (fun m => lc V 48 x m + lc V 48 m y) acc (m + 1) n := by
        show mnf _ (min acc (lc V 48 x m + lc V 48 m y)) _ _ = _
        rw [show min acc (lc V 48 x m + lc V 48 m y) = acc by omega]
      rw [e] at k
      exact k
    · refine ax_iload f215_51 rfl ?_
      refine ax_goto f215_53 rfl ?_
      refine ax_istore_n (ls' := [_, _, _, _, _, _]) f215_57 (Nat.le_of_ble_eq_true rfl) rfl ?_
      refine ax_iinc (ls' := [_, _, _, _, _, _]) f215_58 rfl (Nat.le_of_ble_eq_true rfl) rfl ?_
      refine ax_goto f215_61 rfl ?_
      refine lp_215 o a1 aC iv hxy hg n (lc V 48 x m + lc V 48 m y) (m + 1) (x5 := .int (iI (lc V 48 x m + lc V 48 m y))) (by omega) (by omega) (by omega) ?_
      intro x9
      have k := @k x9
      have e : mnf (fun m => lc V 48 x m + lc V 48 m y) acc m (n + 1) = mnf (fun m => lc V 48 x m + lc V 48 m y) (lc V 48 x m + lc V 48 m y) (m + 1) n := by
        show mnf _ (min acc (lc V 48 x m + lc V 48 m y)) _ _ = _
        rw [show min acc (lc V 48 x m + lc V 48 m y) = (lc V 48 x m + lc V 48 m y) by omega]
      rw [e] at k
      exact k
theorem c_215 {h : am_H} {R : Int → Int} {c th lk pa le sp fi se : Int} (o : Mo h c th lk pa le sp fi se) (a1 : oI h 121 270 R) {g : Int → Int} {x y : Int} (aC : oI h 131 2401 g) (iv : ival (vl R 2) 0 48) (h1 : 0 ≤ x) (h2 : 2 ≤ y - x) (h3 : y ≤ 48) (hg : ∀ a b, x ≤ a → a < b → b ≤ y → b - a < y - x → g (49 * a + b) = lc (vl R 2) 48 a b) : am_X 2 215 0 (am_ent 215 [.ref 120, .int (iI x), .int (iI y)]) [] h (fun r h' => rI r (lc (vl R 2) 48 x y) ∧ h' = h) := by
  show am_X 2 215 0 [.ref 120, .int (iI x), .int (iI y), am_u, am_u, am_u] [] h _
  refine ax_iconst f215_0 ?_
  refine ax_istore_n (ls' := [_, _, _, _, _, _]) f215_1 (Nat.le_of_ble_eq_true rfl) rfl ?_
  refine ax_iload_n f215_2 rfl ?_
  refine ax_iconst f215_3 ?_
  refine ax_iadd f215_4 ?_
  refine ax_istore (ls' := [_, _, _, _, _, _]) f215_5 (Nat.le_of_ble_eq_true rfl) rfl ?_
  refine ax_iload f215_7 rfl ?_
  refine ax_iload_n f215_9 rfl ?_
  refine ax_icmp_ge f215_10 rfl ⟨by omega, by omega⟩ ⟨by omega, by omega⟩ (fun q10 => absurd q10 (by omega)) (fun q10 => ?_)
  refine ax_aload_n f215_13 rfl ?_
  refine ax_getf f215_14 o rfl ?_
  refine ax_bipush f215_17 ?_
  refine ax_iload_n f215_19 rfl ?_
  refine ax_imul f215_20 ?_
  refine ax_iload f215_21 rfl ?_
  refine ax_iadd f215_23 ?_
  refine ax_ialdO f215_24 (by decide) aC (by omega) (by omega) rfl ?_
  refine ax_aload_n f215_25 rfl ?_
  refine ax_getf f215_26 o rfl ?_
  refine ax_bipush f215_29 ?_
  refine ax_iload f215_31 rfl ?_
  refine ax_imul f215_33 ?_
  refine ax_iload_n f215_34 rfl ?_
  refine ax_iadd f215_35 ?_
  refine ax_ialdO f215_36 (by decide) aC (by omega) (by omega) rfl ?_
  refine ax_iadd f215_37 ?_
  rw [hg x (x + 1) (by omega) (by omega) (by omega) (by omega), hg (x + 1) y (by omega) (by omega) (by omega) (by omega), lc_1 (a := x) (b := x + 1) (by omega), Int.zero_add]
  have l2 := lc_in iv 48 (x + 1) y (by omega) (by omega) (by omega)
  refine ax_istore (ls' := [_, _, _, _, _, _]) f215_38 (Nat.le_of_ble_eq_true rfl) rfl ?_
  refine ax_iload_n f215_40 rfl ?_
  refine ax_iconst f215_41 ?_
  refine ax_icmp_eq f215_42 rfl ⟨by omega, by omega⟩ ⟨by omega, by omega⟩ (fun q42 => ?_) (fun q42 => absurd q42 (by omega))
  refine ax_iload f215_51 rfl ?_
  refine ax_goto f215_53 rfl ?_
  refine ax_istore_n (ls' := [_, _, _, _, _, _]) f215_57 (Nat.le_of_ble_eq_true rfl) rfl ?_
  refine ax_iinc (ls' := [_, _, _, _, _, _]) f215_58 rfl (Nat.le_of_ble_eq_true rfl) rfl ?_
  refine ax_goto f215_61 rfl ?_
  refine lp_215 (d := 2) o a1 aC iv ⟨h1, by omega, h3⟩ hg (y - x - 2).toNat (lc (vl R 2) 48 (x + 1) y) (x + 1 + 1) (x5 := .int (iI (lc (vl R 2) 48 (x + 1) y))) (by omega) (by omega) (by omega) ?_
  intro x5
  refine ax_iload_n f215_64 rfl ?_
  refine ax_aload_n f215_65 rfl ?_
  refine ax_iload_n f215_66 rfl ?_
  refine ax_iload_n f215_67 rfl ?_
  refine ax_iconst f215_68 ?_
  refine ax_cvI (rest := [_]) f215_69 o rfl rfl rfl rfl rfl rfl rfl rfl (c_173 o a1 (Or.inr (Or.inr rfl)) h1 (by omega) h3) ?_
  intro _ e_
  obtain rfl := e_.symm
  clear e_
  refine ax_iadd f215_72 ?_
  refine ax_ireturn f215_73 rfl rfl ?_
  exact ⟨rI_of (by rw [lc_48 h2 (by omega), show x + 1 + 1 = x + 2 by omega]), rfl⟩
theorem lp_216a {d : Nat} {Q : am_R → am_H → Prop} {V : Int → Int} {s e : Int} {x4 : Value} {c th lk pa le sp fi se : Int} : ∀ {h : am_H} (o : Mo h c th lk pa le sp fi se) (hse : 0 ≤ s ∧ s < e ∧ e ≤ 48) (n : Nat) (r : Int), r + n = e → s ≤ r → ∀ g : Int → Int, oI h 131 2401 g → (∀ a, s ≤ a → a < r → g (49 * a + (a + 1)) = 0) → (∀ (h' : am_H) (g' : Int → Int), oI h' 131 2401 g' → TB V g' s e 2 s → fr (fun x => x = 131) h h' → am_X d 216 27 [.ref 120, .int (iI s), .int (iI e), .int (iI e), x4] [] h' Q) → am_X d 216 2 [.ref 120, .int (iI s), .int (iI e), .int (iI r), x4] [] h Q
  | h, o, hse, 0, r, h1, h2, g, aC, hz, k => by
    have h1 : r = e := by omega
    subst h1
    refine ax_iload_n f216_2 rfl ?_
    refine ax_iload_n f216_3 rfl ?_
    refine ax_icmp_ge f216_4 rfl ⟨by omega, by omega⟩ ⟨by omega, by omega⟩ (fun q4 => ?_) (fun q4 => absurd q4 (by omega))
    exact k h g aC (fun a b q1 q2 q3 q4 => by rw [lc_1 (by omega), show b = a + 1 by omega]; exact hz a q1 (by omega)) fr_rf
  | h, o, hse, n + 1, r, h1, h2, g, aC, hz, k => by
    refine ax_iload_n f216_2 rfl ?_
    refine ax_iload_n f216_3 rfl ?_
    refine ax_icmp_ge f216_4 rfl ⟨by omega, by omega⟩ ⟨by omega, by omega⟩ (fun q4 => absurd q4 (by omega)) (fun q4 => ?_)
    refine ax_aload_n f216_7 rfl ?_
    refine ax_getf f216_8 o rfl ?_
    refine ax_bipush f216_11 ?_
    refine ax_iload_n f216_13 rfl ?_
    refine ax_imul f216_14 ?_
    refine ax_iload_n f216_15 rfl ?_
    refine ax_iadd f216_16 ?_
    refine ax_iconst f216_17 ?_
    refine ax_iadd f216_18 ?_
    refine ax_iconst f216_19 ?_
    refine ax_iastO f216_20 aC (by omega) (by omega) rfl (fun hp1 o1 r1 => ?_)
    have o : Mo hp1 _ _ _ _ _ _ _ _ := r1.at (q := 120) (by omega) o
    have aC := o1
    refine ax_iinc (ls' := [_, _, _, _, _]) f216_21 rfl (Nat.le_of_ble_eq_true rfl) rfl ?_
    refine ax_goto f216_24 rfl ?_
    refine lp_216a (V := V) o hse n (r + 1) (by omega) (by omega) _ aC ?_ ?_
    · intro a q1 q2
      unfold uZ
      split
      · rfl
      · exact hz a q1 (by omega)
    · intro h9 g9 a9 b9 f9
      exact k h9 g9 a9 b9 (r1.trans f9)
theorem lp_216c {d : Nat} {Q : am_R → am_H → Prop} {R : Int → Int} {s e L : Int} {c th lk pa le sp fi se : Int} (iv : ival (vl R 2) 0 48) : ∀ {h : am_H} (o : Mo h c th lk pa le sp fi se) (a1 : oI h 121 270 R) (hse : 0 ≤ s ∧ s < e ∧ e ≤ 48) (hL : 2 ≤ L ∧ L ≤ e - s) (n : Nat) (r : Int), r + n = e - L + 1 → s ≤ r → ∀ g : Int → Int, oI h 131 2401 g → TB (vl R 2) g s e L r → (∀ (h' : am_H) (g' : Int → Int), oI h' 131 2401 g' → TB (vl R 2) g' s e (L + 1) s → fr (fun x => x = 131) h h' → am_X (d + 3) 216 78 [.ref 120, .int (iI s), .int (iI e), .int (iI L), .int (iI (e - L + 1))] [] h' Q) → am_X (d + 3) 216 39 [.ref 120, .int (iI s), .int (iI e), .int (iI L), .int (iI r)] [] h Q
  | h, o, a1, hse, hL, 0, r, h1, h2, g, aC, ht, k => by
    have h1 : r = e - L + 1 := by omega
    subst h1
    refine ax_iload f216_39 rfl ?_
    refine ax_iload_n f216_41 rfl ?_
    refine ax_iadd f216_42 ?_
    refine ax_iload_n f216_43 rfl ?_
    refine ax_icmp_gt f216_44 rfl ⟨by omega, by omega⟩ ⟨by omega, by omega⟩ (fun q44 => ?_) (fun q44 => absurd q44 (by omega))
    exact k h g aC (fun a b q1 q2 q3 q4 => ht a b q1 q2 q3 (by omega)) fr_rf
  | h, o, a1, hse, hL, n + 1, r, h1, h2, g, aC, ht, k => by
    refine ax_iload f216_39 rfl ?_
    refine ax_iload_n f216_41 rfl ?_
    refine ax_iadd f216_42 ?_
    refine ax_iload_n f216_43 rfl ?_
    refine ax_icmp_gt f216_44 rfl ⟨by omega, by omega⟩ ⟨by omega, by omega⟩ (fun q44 => absurd q44 (by omega)) (fun q44 => ?_)
    refine ax_aload_n f216_47 rfl ?_
    refine ax_getf f216_48 o rfl ?_
    refine ax_bipush f216_51 ?_
    refine ax_iload f216_53 rfl ?_
    refine ax_imul f216_55 ?_
    refine ax_iload f216_56 rfl ?_
    refine ax_iadd f216_58 ?_
    refine ax_iload_n f216_59 rfl ?_
    refine ax_iadd f216_60 ?_
    refine ax_aload_n f216_61 rfl ?_
    refine ax_iload f216_62 rfl ?_
    refine ax_iload f216_64 rfl ?_
    refine ax_iload_n f216_66 rfl ?_
    refine ax_iadd f216_67 ?_
    refine ax_cvI (rest := [_, _]) f216_68 o rfl rfl rfl rfl rfl rfl rfl rfl (c_215 o a1 aC iv (by omega) (by omega) (by omega) (fun a b q1 q2 q3 q4 => ht a b (by omega) q2 (by omega) (by omega))) ?_
    intro _ e_
    obtain rfl := e_.symm
    clear e_
    refine ax_iastO f216_71 aC (by omega) (by omega) rfl (fun hp1 o1 r1 => ?_)
    have o : Mo hp1 _ _ _ _ _ _ _ _ := r1.at (q := 120) (by omega) o
    have a1 := a1.fr r1 (by omega)
    have aC := o1
    refine ax_iinc (ls' := [_, _, _, _, _]) f216_72 rfl (Nat.le_of_ble_eq_true rfl) rfl ?_
    refine ax_goto f216_75 rfl ?_
    refine lp_216c iv o a1 hse hL n (r + 1) (by omega) (by omega) _ aC ?_ ?_
    · intro a b q1 q2 q3 q4
      unfold uZ
      split
      · rename_i ex
        have : a = r := by omega
        subst this
        rw [show b = a + L by omega]
      · exact ht a b q1 q2 q3 (by omega)
    · intro h9 g9 a9 b9 f9
      exact k h9 g9 a9 b9 (r1.trans f9)
theorem lp_216b {d : Nat} {Q : am_R → am_H → Prop} {R : Int → Int} {s e : Int} {c th lk pa le sp fi se : Int} (iv : ival (vl R 2) 0 48) : ∀ {h : am_H} (o : Mo h c th lk pa le sp fi se) (a1 : oI h 121 270 R) (hse : 0 ≤ s ∧ s < e ∧ e ≤ 48) (n : Nat) (L : Int) {x4 : Value}, L + n = max (e - s + 1) 2 → 2 ≤ L → ∀ g : Int → Int, oI h 131 2401 g → TB (vl R 2) g s e L s → (∀ (h' : am_H) (g' : Int → Int), oI h' 131 2401 g' → TB (vl R 2) g' s e (max (e - s + 1) 2) s → fr (fun x => x = 131) h h' → ∀ {x4 : Value}, am_X (d + 3) 216 84 [.ref 120, .int (iI s), .int (iI e), .int (iI (max (e - s + 1) 2)), x4] [] h' Q) → am_X (d + 3) 216 29 [.ref 120, .int (iI s), .int (iI e), .int (iI L), x4] [] h Q
  | h, o, a1, hse, 0, L, x4, h1, hL, g, aC, ht, k => by
    have h1 : L = max (e - s + 1) 2 := by omega
    rw [← h1] at k
    refine ax_iload_n f216_29 rfl ?_
    refine ax_iload_n f216_30 rfl ?_
    refine ax_iload_n f216_31 rfl ?_
    refine ax_isub f216_32 ?_
    refine ax_icmp_gt f216_33 rfl ⟨by omega, by omega⟩ ⟨by omega, by omega⟩ (fun q33 => ?_) (fun q33 => absurd q33 (by omega))
    exact k h g aC ht fr_rf
  | h, o, a1, hse, n + 1, L, x4, h1, hL, g, aC, ht, k => by
    refine ax_iload_n f216_29 rfl ?_
    refine ax_iload_n f216_30 rfl ?_
    refine ax_iload_n f216_31 rfl ?_
    refine ax_isub f216_32 ?_
    refine ax_icmp_gt f216_33 rfl ⟨by omega, by omega⟩ ⟨by omega, by omega⟩ (fun q33 => absurd q33 (by omega)) (fun q33 => ?_)
    refine ax_iload_n f216_36 rfl ?_
    refine ax_istore (ls' := [_, _, _, _, _]) f216_37 (Nat.le_of_ble_eq_true rfl) rfl ?_
    refine lp_216c (d := d) iv o a1 hse (L := L) ⟨hL, by omega⟩ (e - s - L + 1).toNat s (by omega) (by omega) g aC ht ?_
    intro h8 g8 a8 b8 f8
    have o : Mo h8 _ _ _ _ _ _ _ _ := f8.at (q := 120) (by omega) o
    have a1 := a1.fr f8 (by omega)
    refine ax_iinc (ls' := [_, _, _, _, _]) f216_78 rfl (Nat.le_of_ble_eq_true rfl) rfl ?_
    refine ax_goto f216_81 rfl ?_
    refine lp_216b iv o a1 hse n (L + 1) (by omega) (by omega) _ a8 b8 ?_
    intro h9 g9 a9 b9 f9
    exact k h9 g9 a9 b9 (f8.trans f9)
theorem c_216 {h : am_H} {R : Int → Int} {c th lk pa le sp fi se : Int} (o : Mo h c th lk pa le sp fi se) (a1 : oI h 121 270 R) {g : Int → Int} {x y : Int} (aC : oI h 131 2401 g) (iv : ival (vl R 2) 0 48) (h1 : 0 ≤ x) (h2 : x < y) (h3 : y ≤ 48) : am_X 3 216 0 (am_ent 216 [.ref 120, .int (iI x), .int (iI y)]) [] h (fun r h' => rI r (lc (vl R 2) 48 x y) ∧ (∃ g', oI h' 131 2401 g') ∧ fr (fun x => x = 131) h h') := by
  show am_X 3 216 0 [.ref 120, .int (iI x), .int (iI y), am_u, am_u] [] h _
  refine ax_iload_n f216_0 rfl ?_
  refine ax_istore_n (ls' := [_, _, _, _, _]) f216_1 (Nat.le_of_ble_eq_true rfl) rfl ?_
  refine lp_216a (V := vl R 2) o ⟨h1, h2, h3⟩ (y - x).toNat x (by omega) (by omega) _ aC (fun a q1 q2 => by omega) ?_
  intro h5 g5 a5 t5 f5
  have o : Mo h5 _ _ _ _ _ _ _ _ := f5.at (q := 120) (by omega) o
  have a1 := a1.fr f5 (by omega)
  refine ax_iconst f216_27 ?_
  refine ax_istore_n (ls' := [_, _, _, _, _]) f216_28 (Nat.le_of_ble_eq_true rfl) rfl ?_
  refine lp_216b (d := 0) iv o a1 ⟨h1, h2, h3⟩ (max (y - x + 1) 2 - 2).toNat 2 (by omega) (by omega) g5 a5 t5 ?_
  intro h6 g6 a6 t6 f6 x4
  have o : Mo h6 _ _ _ _ _ _ _ _ := f6.at (q := 120) (by omega) o
  have aC := a6
  refine ax_aload_n f216_84 rfl ?_
  refine ax_getf f216_85 o rfl ?_
  refine ax_bipush f216_88 ?_
  refine ax_iload_n f216_90 rfl ?_
  refine ax_imul f216_91 ?_
  refine ax_iload_n f216_92 rfl ?_
  refine ax_iadd f216_93 ?_
  refine ax_ialdO f216_94 (by decide) aC (by omega) (by omega) rfl ?_
  refine ax_ireturn f216_95 rfl rfl ?_
  exact ⟨rI_of (t6 _ _ (by omega) h2 (by omega) (by omega)), ⟨_, aC⟩, f5.trans f6⟩
theorem lp_219a {d : Nat} {Q : am_R → am_H → Prop} {al : Int} {x1 x2 x3 x6 : Value} {c th lk pa le sp fi se : Int} : ∀ {h : am_H} (o : Mo h c th lk pa le sp fi se) (hal : 0 ≤ al ∧ al ≤ 4752) (n : Nat) (r : Int), r + n = al + 1 → 0 ≤ r → ∀ g : Int → Int, oA 2 h 132 4753 g → (∀ j, 0 ≤ j → j < r → g j = sb0 j) → (∀ (h' : am_H) (g' : Int → Int), oA 2 h' 132 4753 g' → (∀ j, 0 ≤ j → j ≤ al → g' j = sb0 j) → fr (fun x => x = 132) h h' → am_X d 219 53 [.ref 120, x1, x2, x3, .int (iI al), .int (iI (al + 1)), x6] [] h' Q) → am_X d 219 23 [.ref 120, x1, x2, x3, .int (iI al), .int (iI r), x6] [] h Q
  | h, o, hal, 0, r, h1, h2, g, aB, hz, k => by
    have h1 : r = al + 1 := by omega
    subst h1
    refine ax_iload f219_23 rfl ?_
    refine ax_iload f219_25 rfl ?_
    refine ax_icmp_gt f219_27 rfl ⟨by omega, by omega⟩ ⟨by omega, by omega⟩ (fun q27 => ?_) (fun q27 => absurd q27 (by omega))
    exact k h g aB (fun j j1 j2 => hz j j1 (by omega)) fr_rf
  | h, o, hal, n + 1, r, h1, h2, g, aB, hz, k => by
    refine ax_iload f219_23 rfl ?_
    refine ax_iload f219_25 rfl ?_
    refine ax_icmp_gt f219_27 rfl ⟨by omega, by omega⟩ ⟨by omega, by omega⟩ (fun q27 => absurd q27 (by omega)) (fun q27 => ?_)
    refine ax_aload_n f219_30 rfl ?_
    refine ax_getf f219_31 o rfl ?_
    refine ax_iload f219_34 rfl ?_
    refine ax_iload f219_36 rfl ?_
    refine ax_if_ne f219_38 rfl ⟨by omega, by omega⟩ (fun q38 => ?_) (fun q38 => ?_)
    · refine ax_iconst f219_45 ?_
      refine ax_bastO f219_46 aB (by omega) (by omega) rfl (by omega) (fun hp1 o1 r1 => ?_)
      have o : Mo hp1 _ _ _ _ _ _ _ _ := r1.at (q := 120) (by omega) o
      have aB := o1
      refine ax_iinc (ls' := [_, _, _, _, _, _, _]) f219_47 rfl (Nat.le_of_ble_eq_true rfl) rfl ?_
      refine ax_goto f219_50 rfl ?_
      refine lp_219a o hal n (r + 1) (by omega) (by omega) _ aB ?_ ?_
      · intro j j1 j2
        unfold uZ
        split
        · rename_i e; subst e; unfold sb0; rw [if_neg (by omega)]
        · exact hz j j1 (by omega)
      · intro h9 g9 a9 b9 f9
        exact k h9 g9 a9 b9 (r1.trans f9)
    · refine ax_iconst f219_41 ?_
      refine ax_goto f219_42 rfl ?_
      refine ax_bastO f219_46 aB (by omega) (by omega) rfl (by omega) (fun hp1 o1 r1 => ?_)
      have o : Mo hp1 _ _ _ _ _ _ _ _ := r1.at (q := 120) (by omega) o
      have aB := o1
      refine ax_iinc (ls' := [_, _, _, _, _, _, _]) f219_47 rfl (Nat.le_of_ble_eq_true rfl) rfl ?_
      refine ax_goto f219_50 rfl ?_
      refine lp_219a o hal n (r + 1) (by omega) (by omega) _ aB ?_ ?_
      · intro j j1 j2
        unfold uZ
        split
        · rename_i e; subst e; unfold sb0; rw [if_pos (by omega)]
        · exact hz j j1 (by omega)
      · intro h9 g9 a9 b9 f9
        exact k h9 g9 a9 b9 (r1.trans f9)
theorem lp_219b {d : Nat} {Q : am_R → am_H → Prop} {R S : Int → Int} {al x w : Int} {x1 x2 x3 : Value} {c th lk pa le sp fi se : Int} (zS : sz S) (hw : R x = w) (hal : (0 ≤ al ∧ al ≤ 4752) ∧ (1 ≤ w ∧ w ≤ 99) ∧ (0 ≤ x ∧ x < 48)) : ∀ {h : am_H} (o : Mo h c th lk pa le sp fi se) (a1 : oI h 121 270 R) (n : Nat) (v : Int), v + 1 = n → v ≤ al → ∀ g : Int → Int, oA 2 h 132 4753 g → (∀ j, v < j → j ≤ al → g j = sba S w j) → (∀ j, 0 ≤ j → j ≤ v → g j = S j) → (∀ (h' : am_H) (g' : Int → Int) (v' : Int), oA 2 h' 132 4753 g' → (∀ j, 0 ≤ j → j ≤ al → g' j = sba S w j) → fr (fun x => x = 132) h h' → am_X d 219 128 [.ref 120, x1, x2, x3, .int (iI al), .int (iI x), .int (iI v')] [] h' Q) → am_X d 219 66 [.ref 120, x1, x2, x3, .int (iI al), .int (iI x), .int (iI v)] [] h Q
  | h, o, a1, 0, v, h1, h2, g, aB, hu, hl, k => by
    have h1 : v = -1 := by omega
    refine ax_iload f219_66 rfl ?_
    refine ax_aload_n f219_68 rfl ?_
    refine ax_getf f219_69 o rfl ?_
    refine ax_iconst f219_72 ?_
    refine ax_iload f219_73 rfl ?_
    refine ax_iadd f219_75 ?_
    rw [Int.zero_add]
    refine ax_ialdO f219_76 (by decide) a1 (by omega) (by omega) rfl ?_
    refine ax_icmp_lt f219_77 rfl ⟨by omega, by omega⟩ ⟨by omega, by omega⟩ (fun q77 => ?_) (fun q77 => absurd q77 (by omega))
    refine k h g v aB ?_ fr_rf
    intro j j1 j2
    by_cases c0 : v < j
    · exact hu j c0 j2
    · rw [hl j j1 (by omega)]
      unfold sba
      rcases (zS j).2 with e | e
      · rw [e, if_neg]
        rintro (z | ⟨z, _⟩)
        · exact absurd z (by decide)
        · omega
      · rw [e, if_pos (Or.inl rfl)]
  | h, o, a1, n + 1, v, h1, h2, g, aB, hu, hl, k => by
    refine ax_iload f219_66 rfl ?_
    refine ax_aload_n f219_68 rfl ?_
    refine ax_getf f219_69 o rfl ?_
    refine ax_iconst f219_72 ?_
    refine ax_iload f219_73 rfl ?_
    refine ax_iadd f219_75 ?_
    rw [Int.zero_add]
    refine ax_ialdO f219_76 (by decide) a1 (by omega) (by omega) rfl ?_
    refine ax_icmp_lt f219_77 rfl ⟨by omega, by omega⟩ ⟨by omega, by omega⟩ (fun q77 => ?_) (fun q77 => ?_)
    · refine k h g v aB ?_ fr_rf
      intro j j1 j2
      by_cases c0 : v < j
      · exact hu j c0 j2
      · rw [hl j j1 (by omega)]
        unfold sba
        rcases (zS j).2 with e | e
        · rw [e, if_neg]
          rintro (z | ⟨z, _⟩)
          · exact absurd z (by decide)
          · omega
        · rw [e, if_pos (Or.inl rfl)]
    · refine ax_aload_n f219_80 rfl ?_
      refine ax_getf f219_81 o rfl ?_
      refine ax_iload f219_84 rfl ?_
      refine ax_aload_n f219_86 rfl ?_
      refine ax_getf f219_87 o rfl ?_
      refine ax_iload f219_90 rfl ?_
      refine ax_baldO f219_92 aB (by omega) (by omega) rfl ?_
      rw [hl v (by omega) (by omega)]
      have z1 := (zS v).2
      refine ax_if_ne f219_93 rfl ⟨by omega, by omega⟩ (fun q93 => ?_) (fun q93 => ?_)
      · refine ax_iconst f219_116 ?_
        refine ax_goto f219_117 rfl ?_
        refine ax_bastO f219_121 aB (by omega) (by omega) rfl (by omega) (fun hp1 o1 r1 => ?_)
        have o : Mo hp1 _ _ _ _ _ _ _ _ := r1.at (q := 120) (by omega) o
        have a1 := a1.fr r1 (by omega)
        have aB := o1
        refine ax_iinc (ls' := [_, _, _, _, _, _, _]) f219_122 rfl (Nat.le_of_ble_eq_true rfl) rfl ?_
        refine ax_goto f219_125 rfl ?_
        have es : sba S w v = 1 := by unfold sba; rw [if_pos (Or.inl (by omega))]
        refine lp_219b zS hw hal o a1 n (v - 1) (by omega) (by omega) _ aB ?_ ?_ ?_
        · intro j j1 j2
          unfold uZ
          by_cases ej : j = v
          · rw [if_pos ej, ej, es]
          · rw [if_neg ej]
            exact hu j (by omega) j2
        · intro j j1 j2
          rw [uZ_n (by omega)]
          exact hl j j1 (by omega)
        · intro h9 g9 v9 a9 b9 f9
          exact k h9 g9 v9 a9 b9 (r1.trans f9)
      · refine ax_aload_n f219_96 rfl ?_
        refine ax_getf f219_97 o rfl ?_
        refine ax_iload f219_100 rfl ?_
        refine ax_aload_n f219_102 rfl ?_
        refine ax_getf f219_103 o rfl ?_
        refine ax_iconst f219_106 ?_
        refine ax_iload f219_107 rfl ?_
        refine ax_iadd f219_109 ?_
        rw [Int.zero_add]
        refine ax_ialdO f219_110 (by decide) a1 (by omega) (by omega) rfl ?_
        refine ax_isub f219_111 ?_
        refine ax_baldO f219_112 aB (by omega) (by omega) rfl ?_
        rw [hl (v - R x) (by omega) (by omega)]
        have z2 := (zS (v - R x)).2
        rw [hw] at z2 ⊢
        refine ax_if_eq f219_113 rfl ⟨by omega, by omega⟩ (fun q113 => ?_) (fun q113 => ?_)
        · refine ax_iconst f219_120 ?_
          refine ax_bastO f219_121 aB (by omega) (by omega) rfl (by omega) (fun hp1 o1 r1 => ?_)
          have o : Mo hp1 _ _ _ _ _ _ _ _ := r1.at (q := 120) (by omega) o
          have a1 := a1.fr r1 (by omega)
          have aB := o1
          refine ax_iinc (ls' := [_, _, _, _, _, _, _]) f219_122 rfl (Nat.le_of_ble_eq_true rfl) rfl ?_
          refine ax_goto f219_125 rfl ?_
          have es : sba S w v = 0 := by unfold sba; rw [if_neg (by omega)]
          refine lp_219b zS hw hal o a1 n (v - 1) (by omega) (by omega) _ aB ?_ ?_ ?_
          · intro j j1 j2
            unfold uZ
            by_cases ej : j = v
            · rw [if_pos ej, ej, es]
            · rw [if_neg ej]
              exact hu j (by omega) j2
          · intro j j1 j2
            rw [uZ_n (by omega)]
            exact hl j j1 (by omega)
          · intro h9 g9 v9 a9 b9 f9
            exact k h9 g9 v9 a9 b9 (r1.trans f9)
        · refine ax_iconst f219_116 ?_
          refine ax_goto f219_117 rfl ?_
          refine ax_bastO f219_121 aB (by omega) (by omega) rfl (by omega) (fun hp1 o1 r1 => ?_)
          have o : Mo hp1 _ _ _ _ _ _ _ _ := r1.at (q := 120) (by omega) o
          have a1 := a1.fr r1 (by omega)
          have aB := o1
          refine ax_iinc (ls' := [_, _, _, _, _, _, _]) f219_122 rfl (Nat.le_of_ble_eq_true rfl) rfl ?_
          refine ax_goto f219_125 rfl ?_
          have es : sba S w v = 1 := by unfold sba; rw [if_pos (Or.inr ⟨by omega, by omega⟩)]
          refine lp_219b zS hw hal o a1 n (v - 1) (by omega) (by omega) _ aB ?_ ?_ ?_
          · intro j j1 j2
            unfold uZ
            by_cases ej : j = v
            · rw [if_pos ej, ej, es]
            · rw [if_neg ej]
              exact hu j (by omega) j2
          · intro j j1 j2
            rw [uZ_n (by omega)]
            exact hl j j1 (by omega)
          · intro h9 g9 v9 a9 b9 f9
            exact k h9 g9 v9 a9 b9 (r1.trans f9)
theorem lp_219c {d : Nat} {Q : am_R → am_H → Prop} {R : Int → Int} {al y : Int} {x1 x3 : Value} {c th lk pa le sp fi se : Int} (iw : ∀ j, 0 ≤ j → j < 48 → 1 ≤ R j ∧ R j ≤ 99) (hal : 0 ≤ al ∧ al ≤ 4752) : ∀ {h : am_H} (o : Mo h c th lk pa le sp fi se) (a1 : oI h 121 270 R) (n : Nat) (r : Int) (S : Int → Int), r + n = y → 0 ≤ r ∧ y ≤ 48 → sz S → ∀ g : Int → Int, oA 2 h 132 4753 g → (∀ j, 0 ≤ j → j ≤ al → g j = S j) → ∀ {x6 : Value}, (∀ (h' : am_H) (g' : Int → Int) (x' : Value), oA 2 h' 132 4753 g' → (∀ j, 0 ≤ j → j ≤ al → g' j = ssf R S r n j) → fr (fun x => x = 132) h h' → am_X d 219 134 [.ref 120, x1, .int (iI y), x3, .int (iI al), .int (iI y), x'] [] h' Q) → am_X d 219 56 [.ref 120, x1, .int (iI y), x3, .int (iI al), .int (iI r), x6] [] h Q
  | h, o, a1, 0, r, S, h1, h2, zS, g, aB, hz, x6, k => by
    have h1 : r = y := by omega
    subst h1
    refine ax_iload f219_56 rfl ?_
    refine ax_iload_n f219_58 rfl ?_
    refine ax_icmp_ge f219_59 rfl ⟨by omega, by omega⟩ ⟨by omega, by omega⟩ (fun q59 => ?_) (fun q59 => absurd q59 (by omega))
    exact k h g _ aB hz fr_rf
  | h, o, a1, n + 1, r, S, h1, h2, zS, g, aB, hz, x6, k => by
    refine ax_iload f219_56 rfl ?_
    refine ax_iload_n f219_58 rfl ?_
    refine ax_icmp_ge f219_59 rfl ⟨by omega, by omega⟩ ⟨by omega, by omega⟩ (fun q59 => absurd q59 (by omega)) (fun q59 => ?_)
    refine ax_iload f219_62 rfl ?_
    refine ax_istore (ls' := [_, _, _, _, _, _, _]) f219_64 (Nat.le_of_ble_eq_true rfl) rfl ?_
    refine lp_219b (S := S) (w := R r) zS rfl ⟨hal, iw r (by omega) (by omega), by omega, by omega⟩ o a1 (al + 1).toNat al (by omega) (by omega) g aB (fun j j1 j2 => by omega) hz ?_
    intro h8 g8 v8 a8 b8 f8
    have o : Mo h8 _ _ _ _ _ _ _ _ := f8.at (q := 120) (by omega) o
    have a1 := a1.fr f8 (by omega)
    refine ax_iinc (ls' := [_, _, _, _, _, _, _]) f219_128 rfl (Nat.le_of_ble_eq_true rfl) rfl ?_
    refine ax_goto f219_131 rfl ?_
    have hwr := iw r (by omega) (by omega)
    refine lp_219c iw hal o a1 n (r + 1) (sba S (R r)) (by omega) (by omega) (sz_a zS (by omega)) _ a8 b8 ?_
    intro h9 g9 x9 a9 b9 f9
    exact k h9 g9 x9 a9 b9 (f8.trans f9)
theorem c_219 {h : am_H} {R : Int → Int} {c th lk pa le sp fi se : Int} (o : Mo h c th lk pa le sp fi se) (a1 : oI h 121 270 R) (i : inv R) {x y v : Int} (h1 : 0 ≤ x) (h2 : x < y) (h3 : y ≤ 48) (hv : inI v) {g : Int → Int} (aB : oA 2 h 132 4753 g) : am_X 2 219 0 (am_ent 219 [.ref 120, .int (iI x), .int (iI y), .int (iI v)]) [] h (fun r h' => rI r (csm R x y v) ∧ (∃ g', oA 2 h' 132 4753 g') ∧ fr (fun x => x = 132) h h') := by
  show am_X 2 219 0 [.ref 120, .int (iI x), .int (iI y), .int (iI v), am_u, am_u, am_u] [] h _
  have hk := bok_in i.1.1 h1 (show x ≤ y by omega) h3
  have hal : 0 ≤ bok R x y ∧ bok R x y ≤ 4752 := by omega
  obtain ⟨hv1, hv2⟩ := id hv
  obtain ⟨al, eal⟩ : ∃ al, bok R x y = al := ⟨_, rfl⟩
  have hcs : csm R x y v = if 0 ≤ v ∧ v ≤ al then ssf R sb0 x (y - x).toNat v else 0 := by unfold csm; rw [eal]
  rw [eal] at hal
  by_cases c0 : 0 ≤ v ∧ v ≤ al
  · rw [if_pos c0] at hcs
    refine ax_aload_n f219_0 rfl ?_
    refine ax_iload_n f219_1 rfl ?_
    refine ax_iload_n f219_2 rfl ?_
    refine ax_cvI (rest := []) f219_3 o rfl rfl rfl rfl rfl rfl rfl rfl (c_156 o a1 h1 (by omega) h3) ?_
    intro _ e_
    obtain rfl := e_.symm
    clear e_
    rw [eal]
    refine ax_istore (ls' := [_, _, _, _, _, _, _]) f219_6 (Nat.le_of_ble_eq_true rfl) rfl ?_
    refine ax_iload_n f219_8 rfl ?_
    refine ax_iconst f219_9 ?_
    refine ax_iload f219_10 rfl ?_
    refine ax_csI (rest := []) f219_12 (Or.inl rfl) rfl rfl rfl rfl rfl rfl (c_145 hv ⟨by decide, by decide⟩ ⟨by omega, by omega⟩) ?_
    intro _ e_
    obtain rfl := e_.symm
    clear e_
    refine ax_nmI (b2i_t c0) ?_
    refine ax_if_ne f219_15 rfl ⟨by omega, by omega⟩ (fun q15 => ?_) (fun q15 => absurd q15 (by omega))
    refine ax_iconst f219_20 ?_
    refine ax_istore (ls' := [_, _, _, _, _, _, _]) f219_21 (Nat.le_of_ble_eq_true rfl) rfl ?_
    refine lp_219a o hal (al + 1).toNat 0 (by omega) (by omega) _ aB (fun j j1 j2 => by omega) ?_
    intro h8 g8 a8 b8 f8
    have o : Mo h8 _ _ _ _ _ _ _ _ := f8.at (q := 120) (by omega) o
    have a1 := a1.fr f8 (by omega)
    have aB := a8
    refine ax_iload_n f219_53 rfl ?_
    refine ax_istore (ls' := [_, _, _, _, _, _, _]) f219_54 (Nat.le_of_ble_eq_true rfl) rfl ?_
    refine lp_219c (fun j j1 j2 => i.wt j1 j2) hal o a1 (y - x).toNat x sb0 (by omega) (by omega) sz_0 _ aB b8 ?_
    intro h7 g7 x7 a7 b7 f7
    have o : Mo h7 _ _ _ _ _ _ _ _ := f7.at (q := 120) (by omega) o
    have aB := a7
    refine ax_aload_n f219_134 rfl ?_
    refine ax_getf f219_135 o rfl ?_
    refine ax_iload_n f219_138 rfl ?_
    refine ax_baldO f219_139 aB (by omega) (by omega) rfl ?_
    rw [b7 v c0.1 c0.2]
    refine ax_ireturn f219_140 rfl (nb1 (sz_f (R := R) (y - x).toNat sb0 x sz_0 (fun j j1 j2 => by have := i.wt (r := j) (by omega) (by omega); omega) v).2) ?_
    exact ⟨rI_of hcs.symm, ⟨_, aB⟩, f8.trans f7⟩
  · rw [if_neg c0] at hcs
    refine ax_aload_n f219_0 rfl ?_
    refine ax_iload_n f219_1 rfl ?_
    refine ax_iload_n f219_2 rfl ?_
    refine ax_cvI (rest := []) f219_3 o rfl rfl rfl rfl rfl rfl rfl rfl (c_156 o a1 h1 (by omega) h3) ?_
    intro _ e_
    obtain rfl := e_.symm
    clear e_
    rw [eal]
    refine ax_istore (ls' := [_, _, _, _, _, _, _]) f219_6 (Nat.le_of_ble_eq_true rfl) rfl ?_
    refine ax_iload_n f219_8 rfl ?_
    refine ax_iconst f219_9 ?_
    refine ax_iload f219_10 rfl ?_
    refine ax_csI (rest := []) f219_12 (Or.inl rfl) rfl rfl rfl rfl rfl rfl (c_145 hv ⟨by decide, by decide⟩ ⟨by omega, by omega⟩) ?_
    intro _ e_
    obtain rfl := e_.symm
    clear e_
    refine ax_nmI (b2i_f c0) ?_
    refine ax_if_ne f219_15 rfl ⟨by omega, by omega⟩ (fun q15 => absurd q15 (by omega)) (fun q15 => ?_)
    refine ax_iconst f219_18 ?_
    refine ax_ireturn f219_19 rfl rfl ?_
    exact ⟨rI_of hcs.symm, ⟨_, aB⟩, fr_rf⟩
end MLK
