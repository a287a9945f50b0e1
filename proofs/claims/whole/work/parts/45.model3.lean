/-! ===== the reference: even fences ===== -/
section MEV
theorem gf_at (R : Int → Int) (g : Int) (m : Nat) : gf R g (0 + (m : Int)) = if gb R g m + R m ≤ g then 0 else 1 := by unfold gf; rw [Int.zero_add, Int.toNat_natCast]
theorem gs_t {R : Int → Int} {g : Int} {m : Nat} (h : gb R g m + R m ≤ g) : 1 + sm (gf R g) 0 (m + 1) = 1 + sm (gf R g) 0 m + 0 ∧ gb R g (m + 1) = gb R g m + R m := by
  refine ⟨?_, ?_⟩
  · rw [sm_snoc, gf_at, if_pos h]; omega
  · show (if _ then _ else _) = _
    rw [if_pos h]
theorem gs_f {R : Int → Int} {g : Int} {m : Nat} (h : ¬ gb R g m + R m ≤ g) : 1 + sm (gf R g) 0 (m + 1) = 1 + sm (gf R g) 0 m + 1 ∧ gb R g (m + 1) = R m := by
  refine ⟨?_, ?_⟩
  · rw [sm_snoc, gf_at, if_neg h]; omega
  · show (if _ then _ else _) = _
    rw [if_neg h]
theorem lp_167 {d : Nat} {h : am_H} {Q : am_R → am_H → Prop} {R : Int → Int} {c th lk pa le sp fi se : Int} (o : Mo h c th lk pa le sp fi se) (a1 : oI h 121 270 R) {g : Int} (i : ibt R 0 48 1 99) (hg : 0 ≤ g ∧ g ≤ 10000) : ∀ (n m : Nat) {x5 : Value}, m + n = 48 → (Q (.inl (some (.int (iI (1 + sm (gf R g) 0 48))))) h) → am_X d 167 7 [.ref 120, .int (iI g), .int (iI (1 + sm (gf R g) 0 m)), .int (iI (gb R g m)), .int (iI (m : Int)), x5] [] h Q
  | 0, m, x5, h1, k => by
    have h1 : m = 48 := by omega
    subst h1
    refine ax_iload f167_7 rfl ?_
    refine ax_bipush f167_9 ?_
    refine ax_icmp_ge f167_11 rfl ⟨by omega, by omega⟩ ⟨by omega, by omega⟩ (fun q11 => ?_) (fun q11 => absurd q11 (by omega))
    refine ax_iload_n f167_84 rfl ?_
    refine ax_ireturn f167_85 rfl rfl ?_
    exact k
  | n + 1, m, x5, h1, k => by
    have b1 := gb_in i g m (by omega)
    have w1 := i m (by omega) (by omega)
    rw [Int.zero_add] at w1
    refine ax_iload f167_7 rfl ?_
    refine ax_bipush f167_9 ?_
    refine ax_icmp_ge f167_11 rfl ⟨by omega, by omega⟩ ⟨by omega, by omega⟩ (fun q11 => absurd q11 (by omega)) (fun q11 => ?_)
    refine ax_iload_n f167_14 rfl ?_
    refine ax_aload_n f167_15 rfl ?_
    refine ax_getf f167_16 o rfl ?_
    refine ax_iconst f167_19 ?_
    refine ax_iload f167_20 rfl ?_
    refine ax_iadd f167_22 ?_
    rw [Int.zero_add]
    refine ax_ialdO f167_23 (by decide) a1 (by omega) (by omega) rfl ?_
    refine ax_iadd f167_24 ?_
    refine ax_iload_n f167_25 rfl ?_
    refine ax_icmp_gt f167_26 rfl ⟨by omega, by omega⟩ ⟨by omega, by omega⟩ (fun q26 => ?_) (fun q26 => ?_)
    · refine ax_iconst f167_33 ?_
      refine ax_istore (ls' := [_, _, _, _, _, _]) f167_34 (Nat.le_of_ble_eq_true rfl) rfl ?_
      refine ax_iload_n f167_36 rfl ?_
      refine ax_iload f167_37 rfl ?_
      refine ax_if_eq f167_39 rfl ⟨by omega, by omega⟩ (fun q39 => ?_) (fun q39 => absurd q39 (by omega))
      refine ax_iconst f167_46 ?_
      refine ax_iadd f167_47 ?_
      refine ax_istore_n (ls' := [_, _, _, _, _, _]) f167_48 (Nat.le_of_ble_eq_true rfl) rfl ?_
      refine ax_iload f167_49 rfl ?_
      refine ax_if_eq f167_51 rfl ⟨by omega, by omega⟩ (fun q51 => ?_) (fun q51 => absurd q51 (by omega))
      refine ax_aload_n f167_68 rfl ?_
      refine ax_getf f167_69 o rfl ?_
      refine ax_iconst f167_72 ?_
      refine ax_iload f167_73 rfl ?_
      refine ax_iadd f167_75 ?_
      rw [Int.zero_add]
      refine ax_ialdO f167_76 (by decide) a1 (by omega) (by omega) rfl ?_
      refine ax_istore_n (ls' := [_, _, _, _, _, _]) f167_77 (Nat.le_of_ble_eq_true rfl) rfl ?_
      refine ax_iinc (ls' := [_, _, _, _, _, _]) f167_78 rfl (Nat.le_of_ble_eq_true rfl) rfl ?_
      refine ax_goto f167_81 rfl ?_
      obtain ⟨e1, e2⟩ := gs_f (R := R) (g := g) (m := m) (by omega)
      have e3 : ((m + 1 : Nat) : Int) = (m : Int) + 1 := by omega
      have z := lp_167 (d := d) o a1 i hg n (m + 1) (x5 := .int (iI 0)) (by omega) k
      rw [e1, e2, e3] at z
      exact z
    · refine ax_iconst f167_29 ?_
      refine ax_goto f167_30 rfl ?_
      refine ax_istore (ls' := [_, _, _, _, _, _]) f167_34 (Nat.le_of_ble_eq_true rfl) rfl ?_
      refine ax_iload_n f167_36 rfl ?_
      refine ax_iload f167_37 rfl ?_
      refine ax_if_eq f167_39 rfl ⟨by omega, by omega⟩ (fun q39 => absurd q39 (by omega)) (fun q39 => ?_)
      refine ax_iconst f167_42 ?_
      refine ax_goto f167_43 rfl ?_
      refine ax_iadd f167_47 ?_
      refine ax_istore_n (ls' := [_, _, _, _, _, _]) f167_48 (Nat.le_of_ble_eq_true rfl) rfl ?_
      refine ax_iload f167_49 rfl ?_
      refine ax_if_eq f167_51 rfl ⟨by omega, by omega⟩ (fun q51 => absurd q51 (by omega)) (fun q51 => ?_)
      refine ax_iload_n f167_54 rfl ?_
      refine ax_aload_n f167_55 rfl ?_
      refine ax_getf f167_56 o rfl ?_
      refine ax_iconst f167_59 ?_
      refine ax_iload f167_60 rfl ?_
      refine ax_iadd f167_62 ?_
      rw [Int.zero_add]
      refine ax_ialdO f167_63 (by decide) a1 (by omega) (by omega) rfl ?_
      refine ax_iadd f167_64 ?_
      refine ax_goto f167_65 rfl ?_
      refine ax_istore_n (ls' := [_, _, _, _, _, _]) f167_77 (Nat.le_of_ble_eq_true rfl) rfl ?_
      refine ax_iinc (ls' := [_, _, _, _, _, _]) f167_78 rfl (Nat.le_of_ble_eq_true rfl) rfl ?_
      refine ax_goto f167_81 rfl ?_
      obtain ⟨e1, e2⟩ := gs_t (R := R) (g := g) (m := m) (by omega)
      have e3 : ((m + 1 : Nat) : Int) = (m : Int) + 1 := by omega
      have z := lp_167 (d := d) o a1 i hg n (m + 1) (x5 := .int (iI 1)) (by omega) k
      rw [e1, e2, e3] at z
      exact z
theorem c_167 {h : am_H} {R : Int → Int} {c th lk pa le sp fi se : Int} (o : Mo h c th lk pa le sp fi se) (a1 : oI h 121 270 R) {g : Int} (i : ibt R 0 48 1 99) (hg : 0 ≤ g ∧ g ≤ 10000) : am_X 0 167 0 (am_ent 167 [.ref 120, .int (iI g)]) [] h (fun r h' => rI r (1 + sm (gf R g) 0 48) ∧ h' = h) := by
  show am_X 0 167 0 [.ref 120, .int (iI g), am_u, am_u, am_u, am_u] [] h _
  refine ax_iconst f167_0 ?_
  refine ax_istore_n (ls' := [_, _, _, _, _, _]) f167_1 (Nat.le_of_ble_eq_true rfl) rfl ?_
  refine ax_iconst f167_2 ?_
  refine ax_istore_n (ls' := [_, _, _, _, _, _]) f167_3 (Nat.le_of_ble_eq_true rfl) rfl ?_
  refine ax_iconst f167_4 ?_
  refine ax_istore (ls' := [_, _, _, _, _, _]) f167_5 (Nat.le_of_ble_eq_true rfl) rfl ?_
  have z := lp_167 (d := 0) (Q := fun r h' => rI r (1 + sm (gf R g) 0 48) ∧ h' = h) o a1 i hg 48 0 (x5 := am_u) (by omega) ⟨rI_of rfl, rfl⟩
  rw [show 1 + sm (gf R g) 0 0 = 1 from rfl, show gb R g 0 = 0 from rfl, show ((0 : Nat) : Int) = 0 from rfl] at z
  exact z
theorem lp_168 {d : Nat} {h : am_H} {Q : am_R → am_H → Prop} {R : Int → Int} {c th lk pa le sp fi se : Int} (o : Mo h c th lk pa le sp fi se) (a1 : oI h 121 270 R) (i : ibt R 0 48 1 99) : ∀ (n : Nat) (most r : Int), r + n = 48 → 0 ≤ r → 0 ≤ most ∧ most ≤ 99 → (Q (.inl (some (.int (iI (mxf R most r n))))) h) → am_X d 168 4 [.ref 120, .int (iI most), .int (iI r)] [] h Q
  | 0, most, r, h1, h2, h3, k => by
    have h1 : r = 48 := by omega
    subst h1
    refine ax_iload_n f168_4 rfl ?_
    refine ax_bipush f168_5 ?_
    refine ax_icmp_ge f168_7 rfl ⟨by omega, by omega⟩ ⟨by omega, by omega⟩ (fun q7 => ?_) (fun q7 => absurd q7 (by omega))
    refine ax_iload_n f168_41 rfl ?_
    refine ax_ireturn f168_42 rfl rfl ?_
    exact k
  | n + 1, most, r, h1, h2, h3, k => by
    have w1 := i r (by omega) (by omega)
    rw [Int.zero_add] at w1
    refine ax_iload_n f168_4 rfl ?_
    refine ax_bipush f168_5 ?_
    refine ax_icmp_ge f168_7 rfl ⟨by omega, by omega⟩ ⟨by omega, by omega⟩ (fun q7 => absurd q7 (by omega)) (fun q7 => ?_)
    refine ax_aload_n f168_10 rfl ?_
    refine ax_getf f168_11 o rfl ?_
    refine ax_iconst f168_14 ?_
    refine ax_iload_n f168_15 rfl ?_
    refine ax_iadd f168_16 ?_
    rw [Int.zero_add]
    refine ax_ialdO f168_17 (by decide) a1 (by omega) (by omega) rfl ?_
    refine ax_iload_n f168_18 rfl ?_
    refine ax_icmp_le f168_19 rfl ⟨by omega, by omega⟩ ⟨by omega, by omega⟩ (fun q19 => ?_) (fun q19 => ?_)
    · refine ax_iload_n f168_33 rfl ?_
      refine ax_istore_n (ls' := [_, _, _]) f168_34 (Nat.le_of_ble_eq_true rfl) rfl ?_
      refine ax_iinc (ls' := [_, _, _]) f168_35 rfl (Nat.le_of_ble_eq_true rfl) rfl ?_
      refine ax_goto f168_38 rfl ?_
      refine lp_168 o a1 i n most (r + 1) (by omega) (by omega) (by omega) ?_
      unfold mxf at k
      rw [if_neg (by omega)] at k
      exact k
    · refine ax_aload_n f168_22 rfl ?_
      refine ax_getf f168_23 o rfl ?_
      refine ax_iconst f168_26 ?_
      refine ax_iload_n f168_27 rfl ?_
      refine ax_iadd f168_28 ?_
      rw [Int.zero_add]
      refine ax_ialdO f168_29 (by decide) a1 (by omega) (by omega) rfl ?_
      refine ax_goto f168_30 rfl ?_
      refine ax_istore_n (ls' := [_, _, _]) f168_34 (Nat.le_of_ble_eq_true rfl) rfl ?_
      refine ax_iinc (ls' := [_, _, _]) f168_35 rfl (Nat.le_of_ble_eq_true rfl) rfl ?_
      refine ax_goto f168_38 rfl ?_
      refine lp_168 o a1 i n (R r) (r + 1) (by omega) (by omega) (by omega) ?_
      unfold mxf at k
      rw [if_pos (by omega)] at k
      exact k
theorem c_168 {h : am_H} {R : Int → Int} {c th lk pa le sp fi se : Int} (o : Mo h c th lk pa le sp fi se) (a1 : oI h 121 270 R) (i : ibt R 0 48 1 99) : am_X 0 168 0 (am_ent 168 [.ref 120]) [] h (fun r h' => rI r (hvy R) ∧ h' = h) := by
  show am_X 0 168 0 [.ref 120, am_u, am_u] [] h _
  refine ax_iconst f168_0 ?_
  refine ax_istore_n (ls' := [_, _, _]) f168_1 (Nat.le_of_ble_eq_true rfl) rfl ?_
  refine ax_iconst f168_2 ?_
  refine ax_istore_n (ls' := [_, _, _]) f168_3 (Nat.le_of_ble_eq_true rfl) rfl ?_
  exact lp_168 o a1 i 48 0 0 (by omega) (by omega) (by omega) ⟨rI_of rfl, rfl⟩
theorem lp_169 {d : Nat} {h : am_H} {Q : am_R → am_H → Prop} {R : Int → Int} {c th lk pa le sp fi se : Int} (o : Mo h c th lk pa le sp fi se) (a1 : oI h 121 270 R) {n : Int} (i : ibt R 0 48 1 99) (hn : 0 ≤ n ∧ n ≤ 100) : ∀ (f : Nat) (g : Int), 0 ≤ g → 4752 ≤ g + f → g + f ≤ 9000 → (Q (.inl (some (.int (iI (bl R n f g))))) h) → am_X (d + 1) 169 5 [.ref 120, .int (iI n), .int (iI g)] [] h Q
  | 0, g, h1, h2, h3, k => by
    refine ax_aload_n f169_5 rfl ?_
    refine ax_iload_n f169_6 rfl ?_
    refine ax_cvI (rest := []) f169_7 o rfl rfl rfl rfl rfl rfl rfl rfl (c_167 o a1 i (by omega)) ?_
    intro _ e_
    obtain rfl := e_.symm
    clear e_
    have hs := (fts_big i (g := g) (n := 0) (by omega) (by omega)).2
    have hs0 := gf_bnd (R := R) g
    refine ax_iload_n f169_10 rfl ?_
    refine ax_iconst f169_11 ?_
    refine ax_iadd f169_12 ?_
    refine ax_icmp_le f169_13 rfl ⟨by omega, by omega⟩ ⟨by omega, by omega⟩ (fun q13 => ?_) (fun q13 => absurd q13 (by omega))
    refine ax_iload_n f169_22 rfl ?_
    refine ax_ireturn f169_23 rfl rfl ?_
    exact k
  | f + 1, g, h1, h2, h3, k => by
    refine ax_aload_n f169_5 rfl ?_
    refine ax_iload_n f169_6 rfl ?_
    refine ax_cvI (rest := []) f169_7 o rfl rfl rfl rfl rfl rfl rfl rfl (c_167 o a1 i (by omega)) ?_
    intro _ e_
    obtain rfl := e_.symm
    clear e_
    have hs := gf_bnd (R := R) g
    refine ax_iload_n f169_10 rfl ?_
    refine ax_iconst f169_11 ?_
    refine ax_iadd f169_12 ?_
    refine ax_icmp_le f169_13 rfl ⟨by omega, by omega⟩ ⟨by omega, by omega⟩ (fun q13 => ?_) (fun q13 => ?_)
    · refine ax_iload_n f169_22 rfl ?_
      refine ax_ireturn f169_23 rfl rfl ?_
      unfold bl at k
      rw [if_neg (by omega)] at k
      exact k
    · refine ax_iinc (ls' := [_, _, _]) f169_16 rfl (Nat.le_of_ble_eq_true rfl) rfl ?_
      refine ax_goto f169_19 rfl ?_
      refine lp_169 o a1 i hn f (g + 1) (by omega) (by omega) (by omega) ?_
      unfold bl at k
      rw [if_pos (by omega)] at k
      exact k
theorem c_169 {h : am_H} {R : Int → Int} {c th lk pa le sp fi se : Int} (o : Mo h c th lk pa le sp fi se) (a1 : oI h 121 270 R) {n : Int} (i : ibt R 0 48 1 99) (hn : 0 ≤ n ∧ n ≤ 100) : am_X 1 169 0 (am_ent 169 [.ref 120, .int (iI n)]) [] h (fun r h' => rI r (bal R n) ∧ h' = h) := by
  show am_X 1 169 0 [.ref 120, .int (iI n), am_u] [] h _
  have hh := hvy_0 R
  have hh2 : hvy R ≤ 99 := hvy_sp.mpr ⟨by omega, fun j j1 j2 => by have := i j j1 j2; rw [Int.zero_add] at this; exact this.2⟩
  refine ax_aload_n f169_0 rfl ?_
  refine ax_cvI (rest := []) f169_1 o rfl rfl rfl rfl rfl rfl rfl rfl (c_168 o a1 i) ?_
  intro _ e_
  obtain rfl := e_.symm
  clear e_
  refine ax_istore_n (ls' := [_, _, _]) f169_4 (Nat.le_of_ble_eq_true rfl) rfl ?_
  exact lp_169 (d := 0) o a1 i hn 4800 (hvy R) (by omega) (by omega) (by omega) ⟨rI_of rfl, rfl⟩
def fnk (R F : Int → Int) (k j : Int) : Int := if 144 ≤ j ∧ j < 144 + k then F (j - 144) else R j
theorem fnk_0 (R F : Int → Int) (j : Int) : fnk R F 0 j = R j := by unfold fnk; rw [if_neg (by omega)]
theorem fnk_lo {R F : Int → Int} {k j : Int} (h : j < 144) : fnk R F k j = R j := by unfold fnk; rw [if_neg (by omega)]
theorem fnk_s (R F : Int → Int) {k v : Int} (hk : 0 ≤ k) (hv : v = F k) (j : Int) : uZ (fnk R F k) (144 + k) v j = fnk R F (k + 1) j := by
  unfold uZ fnk
  by_cases e : j = 144 + k
  · rw [if_pos e, if_pos (by omega), hv]; congr 1; omega
  · rw [if_neg e]
    split
    · rw [if_pos (by omega)]
    · rw [if_neg (by omega)]
theorem fnk_fr (R F : Int → Int) (j : Int) : frg (fnk R F 48) j = rfe R F j := by
  unfold rfe
  by_cases e : 144 ≤ j ∧ j < 192
  · rw [if_pos e]
    unfold frg fnk
    rw [if_neg (by omega), if_pos (by omega)]
  · rw [if_neg e]
    unfold frg
    by_cases e2 : 192 ≤ j ∧ j < 217
    · rw [if_pos e2, if_pos e2]
    · rw [if_neg e2, if_neg e2]
      unfold fnk
      rw [if_neg (by omega)]
theorem lp_170 {d : Nat} {Q : am_R → am_H → Prop} {R : Int → Int} {c th lk pa le sp fi se : Int} {g : Int} {x1 : Int32} (i : ibt R 0 48 1 99) (hg : 0 ≤ g ∧ g ≤ 10000) : ∀ (n : Nat) {h : am_H} (o : Mo h c th lk pa le sp fi se) (m : Nat) {x5 : Value}, m + n = 48 → oI h 121 270 (fnk R (gf R g) m) → (∀ h' : am_H, oI h' 121 270 (fnk R (gf R g) 48) → fr (fun x => x = 121) h h' → ∀ {x3 : Int} {x5 : Value}, am_X d 170 108 [.ref 120, .int x1, .int (iI g), .int (iI x3), .int (iI 48), x5] [] h' Q) → am_X d 170 23 [.ref 120, .int x1, .int (iI g), .int (iI (gb R g m)), .int (iI (m : Int)), x5] [] h Q
  | 0, h, o, m, x5, h1, a1, k => by
    have h1 : m = 48 := by omega
    subst h1
    refine ax_iload f170_23 rfl ?_
    refine ax_bipush f170_25 ?_
    refine ax_icmp_ge f170_27 rfl ⟨by omega, by omega⟩ ⟨by omega, by omega⟩ (fun q27 => ?_) (fun q27 => absurd q27 (by omega))
    exact k h a1 fr_rf
  | n + 1, h, o, m, x5, h1, a1, k => by
    have b1 := gb_in i g m (by omega)
    have w1 := i m (by omega) (by omega)
    rw [Int.zero_add] at w1
    refine ax_iload f170_23 rfl ?_
    refine ax_bipush f170_25 ?_
    refine ax_icmp_ge f170_27 rfl ⟨by omega, by omega⟩ ⟨by omega, by omega⟩ (fun q27 => absurd q27 (by omega)) (fun q27 => ?_)
    refine ax_iload_n f170_30 rfl ?_
    refine ax_aload_n f170_31 rfl ?_
    refine ax_getf f170_32 o rfl ?_
    refine ax_iconst f170_35 ?_
    refine ax_iload f170_36 rfl ?_
    refine ax_iadd f170_38 ?_
    rw [Int.zero_add]
    refine ax_ialdO f170_39 (by decide) a1 (by omega) (by omega) rfl ?_
    rw [fnk_lo (by omega)]
    refine ax_iadd f170_40 ?_
    refine ax_iload_n f170_41 rfl ?_
    refine ax_icmp_gt f170_42 rfl ⟨by omega, by omega⟩ ⟨by omega, by omega⟩ (fun q42 => ?_) (fun q42 => ?_)
    · refine ax_iconst f170_49 ?_
      refine ax_istore (ls' := [_, _, _, _, _, _]) f170_50 (Nat.le_of_ble_eq_true rfl) rfl ?_
      refine ax_aload_n f170_52 rfl ?_
      refine ax_getf f170_53 o rfl ?_
      refine ax_sipush f170_56 ?_
      refine ax_iload f170_59 rfl ?_
      refine ax_iadd f170_61 ?_
      refine ax_iload f170_62 rfl ?_
      refine ax_if_eq f170_64 rfl ⟨by omega, by omega⟩ (fun q64 => ?_) (fun q64 => absurd q64 (by omega))
      refine ax_iconst f170_71 ?_
      refine ax_iastO f170_72 a1 (by omega) (by omega) rfl (fun hp1 o1 r1 => ?_)
      have o : Mo hp1 _ _ _ _ _ _ _ _ := r1.at (q := 120) (by omega) o
      have a1 := o1
      have e9 : uZ (fnk R (gf R g) m) (144 + m) 1 m = R m := by rw [uZ_n (by omega), fnk_lo (by omega)]
      refine ax_iload f170_73 rfl ?_
      refine ax_if_eq f170_75 rfl ⟨by omega, by omega⟩ (fun q75 => ?_) (fun q75 => absurd q75 (by omega))
      refine ax_aload_n f170_92 rfl ?_
      refine ax_getf f170_93 o rfl ?_
      refine ax_iconst f170_96 ?_
      refine ax_iload f170_97 rfl ?_
      refine ax_iadd f170_99 ?_
      rw [Int.zero_add]
      refine ax_ialdO f170_100 (by decide) a1 (by omega) (by omega) rfl ?_
      rw [e9]
      refine ax_istore_n (ls' := [_, _, _, _, _, _]) f170_101 (Nat.le_of_ble_eq_true rfl) rfl ?_
      refine ax_iinc (ls' := [_, _, _, _, _, _]) f170_102 rfl (Nat.le_of_ble_eq_true rfl) rfl ?_
      refine ax_goto f170_105 rfl ?_
      obtain ⟨_, e2⟩ := gs_f (R := R) (g := g) (m := m) (by omega)
      have e3 : ((m + 1 : Nat) : Int) = (m : Int) + 1 := by omega
      have e4 : 1 = gf R g (m : Int) := by unfold gf; rw [Int.toNat_natCast, if_neg (by omega)]
      have z := lp_170 (d := d) (x1 := x1) (Q := Q) i hg n o (m + 1) (x5 := .int (iI 0)) (by omega) (a1.eq fun j j1 j2 => by rw [fnk_s R (gf R g) (by omega) e4]; rw [e3]) (fun h9 a9 f9 => k h9 a9 (r1.trans f9))
      rw [e2, e3] at z
      exact z
    · refine ax_iconst f170_45 ?_
      refine ax_goto f170_46 rfl ?_
      refine ax_istore (ls' := [_, _, _, _, _, _]) f170_50 (Nat.le_of_ble_eq_true rfl) rfl ?_
      refine ax_aload_n f170_52 rfl ?_
      refine ax_getf f170_53 o rfl ?_
      refine ax_sipush f170_56 ?_
      refine ax_iload f170_59 rfl ?_
      refine ax_iadd f170_61 ?_
      refine ax_iload f170_62 rfl ?_
      refine ax_if_eq f170_64 rfl ⟨by omega, by omega⟩ (fun q64 => absurd q64 (by omega)) (fun q64 => ?_)
      refine ax_iconst f170_67 ?_
      refine ax_goto f170_68 rfl ?_
      refine ax_iastO f170_72 a1 (by omega) (by omega) rfl (fun hp1 o1 r1 => ?_)
      have o : Mo hp1 _ _ _ _ _ _ _ _ := r1.at (q := 120) (by omega) o
      have a1 := o1
      have e9 : uZ (fnk R (gf R g) m) (144 + m) 0 m = R m := by rw [uZ_n (by omega), fnk_lo (by omega)]
      refine ax_iload f170_73 rfl ?_
      refine ax_if_eq f170_75 rfl ⟨by omega, by omega⟩ (fun q75 => absurd q75 (by omega)) (fun q75 => ?_)
      refine ax_iload_n f170_78 rfl ?_
      refine ax_aload_n f170_79 rfl ?_
      refine ax_getf f170_80 o rfl ?_
      refine ax_iconst f170_83 ?_
      refine ax_iload f170_84 rfl ?_
      refine ax_iadd f170_86 ?_
      rw [Int.zero_add]
      refine ax_ialdO f170_87 (by decide) a1 (by omega) (by omega) rfl ?_
      rw [e9]
      refine ax_iadd f170_88 ?_
      refine ax_goto f170_89 rfl ?_
      refine ax_istore_n (ls' := [_, _, _, _, _, _]) f170_101 (Nat.le_of_ble_eq_true rfl) rfl ?_
      refine ax_iinc (ls' := [_, _, _, _, _, _]) f170_102 rfl (Nat.le_of_ble_eq_true rfl) rfl ?_
      refine ax_goto f170_105 rfl ?_
      obtain ⟨_, e2⟩ := gs_t (R := R) (g := g) (m := m) (by omega)
      have e3 : ((m + 1 : Nat) : Int) = (m : Int) + 1 := by omega
      have e4 : 0 = gf R g (m : Int) := by unfold gf; rw [Int.toNat_natCast, if_pos (by omega)]
      have z := lp_170 (d := d) (x1 := x1) (Q := Q) i hg n o (m + 1) (x5 := .int (iI 1)) (by omega) (a1.eq fun j j1 j2 => by rw [fnk_s R (gf R g) (by omega) e4]; rw [e3]) (fun h9 a9 f9 => k h9 a9 (r1.trans f9))
      rw [e2, e3] at z
      exact z
theorem c_170 {h : am_H} {R : Int → Int} {c th lk pa le sp fi se : Int} (o : Mo h c th lk pa le sp fi se) (a1 : oI h 121 270 R) (i : inv R) {z : Int} (hz : inI z) : am_X 2 170 0 (am_ent 170 [.ref 120, .int (iI z)]) [] h (fun r h' => rI r (b2i (1 ≤ z ∧ z ≤ 11)) ∧ oI h' 121 270 (aSp R z) ∧ fr (fun x => x = 121) h h') := by
  show am_X 2 170 0 [.ref 120, .int (iI z), am_u, am_u, am_u, am_u] [] h _
  have F : fr (fun x => x = 121) h h := fr_rf
  by_cases c0 : 1 ≤ z ∧ z ≤ 11
  · have hb := bal_in i.1.1 (n := z) (by omega)
    refine ax_iload_n f170_0 rfl ?_
    refine ax_iconst f170_1 ?_
    refine ax_bipush f170_2 ?_
    refine ax_csI (rest := []) f170_4 (Or.inl rfl) rfl rfl rfl rfl rfl rfl (c_145 hz ⟨by decide, by decide⟩ ⟨by decide, by decide⟩) ?_
    intro _ e_
    obtain rfl := e_.symm
    clear e_
    refine ax_nmI (b2i_t c0) ?_
    refine ax_if_ne f170_7 rfl ⟨by omega, by omega⟩ (fun q7 => ?_) (fun q7 => absurd q7 (by omega))
    refine ax_aload_n f170_12 rfl ?_
    refine ax_iload_n f170_13 rfl ?_
    refine ax_cvI (rest := []) f170_14 o rfl rfl rfl rfl rfl rfl rfl rfl (c_169 o a1 i.1.1 (by omega)) ?_
    intro _ e_
    obtain rfl := e_.symm
    clear e_
    refine ax_istore_n (ls' := [_, _, _, _, _, _]) f170_17 (Nat.le_of_ble_eq_true rfl) rfl ?_
    refine ax_iconst f170_18 ?_
    refine ax_istore_n (ls' := [_, _, _, _, _, _]) f170_19 (Nat.le_of_ble_eq_true rfl) rfl ?_
    refine ax_iconst f170_20 ?_
    refine ax_istore (ls' := [_, _, _, _, _, _]) f170_21 (Nat.le_of_ble_eq_true rfl) rfl ?_
    have z2 := lp_170 (d := 2) (x1 := iI z) (Q := fun r h' => rI r (b2i (1 ≤ z ∧ z ≤ 11)) ∧ oI h' 121 270 (aSp R z) ∧ fr (fun x => x = 121) h h') i.1.1 (g := bal R z) (by omega) 48 o 0 (x5 := am_u) (by omega) (a1.eq fun j j1 j2 => fnk_0 R _ j) ?_
    · rw [show gb R (bal R z) 0 = 0 from rfl, show ((0 : Nat) : Int) = 0 from rfl] at z2
      exact z2
    intro h9 a9 f9 x3 x5
    have o : Mo h9 _ _ _ _ _ _ _ _ := f9.at (q := 120) (by omega) o
    have a1 := a9
    have F := F.trans f9
    refine ax_aload_n f170_108 rfl ?_
    refine ax_cvV (rest := []) f170_109 o rfl rfl rfl rfl rfl rfl rfl rfl (c_160 o a1) ?_
    rintro h8 ⟨a8, f8⟩
    have o : Mo _ _ _ _ _ _ _ _ _ := f8.at (q := 120) (by omega) o
    have a1 := a8
    have F := F.trans (f8.mono fun x e => by omega)
    refine ax_iconst f170_112 ?_
    refine ax_ireturn f170_113 rfl rfl ?_
    refine ⟨rI_of (b2i_t c0).symm, a1.eq fun j j1 j2 => ?_, F⟩
    unfold aSp
    rw [if_pos c0]
    unfold spr
    exact (fnk_fr R _ j).symm
  · refine ax_iload_n f170_0 rfl ?_
    refine ax_iconst f170_1 ?_
    refine ax_bipush f170_2 ?_
    refine ax_csI (rest := []) f170_4 (Or.inl rfl) rfl rfl rfl rfl rfl rfl (c_145 hz ⟨by decide, by decide⟩ ⟨by decide, by decide⟩) ?_
    intro _ e_
    obtain rfl := e_.symm
    clear e_
    refine ax_nmI (b2i_f c0) ?_
    refine ax_if_ne f170_7 rfl ⟨by omega, by omega⟩ (fun q7 => absurd q7 (by omega)) (fun q7 => ?_)
    refine ax_iconst f170_10 ?_
    refine ax_ireturn f170_11 rfl rfl ?_
    exact ⟨rI_of (b2i_f c0).symm, by unfold aSp; rw [if_neg c0]; exact a1, F⟩
end MEV
