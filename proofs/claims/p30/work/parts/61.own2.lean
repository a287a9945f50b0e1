/-! ===== the law's own numbers: where rows are halved, how many blocks are needed ===== -/
section OWH
theorem lp_8a {d : Nat} {h : am_H} {q p : Nat} {R : Int → Int} {w x y : Int} {Q : am_R → am_H → Prop} (a : oI h q 48 R) (l : oI h p 48 (fun j => R (96 + j))) (hw : w = 0 ∨ w = 1 ∨ w = 2) (hx : 0 ≤ x ∧ y ≤ 48) : ∀ (n : Nat) (r s : Int), r + n = y → 0 ≤ r → am_X (d + 1) 8 32 [.ref q, .ref p, .int (iI x), .int (iI y), .int (iI w), .int (iI (s + sm (vl R w) r n)), .int (iI y), am_u, am_u, am_u, am_u] [] h Q → am_X (d + 1) 8 6 [.ref q, .ref p, .int (iI x), .int (iI y), .int (iI w), .int (iI s), .int (iI r), am_u, am_u, am_u, am_u] [] h Q
  | 0, r, s, h1, h2, k => by
    have h1 : r = y := by omega
    subst h1
    refine ax_iload f8_6 rfl ?_
    refine ax_iload_n f8_8 rfl ?_
    refine ax_icmp_ge f8_9 rfl ⟨by omega, by omega⟩ ⟨by omega, by omega⟩ (fun q9 => ?_) (fun q9 => absurd q9 (by omega))
    rw [sm_0, Int.add_zero] at k
    exact k
  | n + 1, r, s, h1, h2, k => by
    refine ax_iload f8_6 rfl ?_
    refine ax_iload_n f8_8 rfl ?_
    refine ax_icmp_ge f8_9 rfl ⟨by omega, by omega⟩ ⟨by omega, by omega⟩ (fun q9 => absurd q9 (by omega)) (fun q9 => ?_)
    refine ax_iload f8_12 rfl ?_
    refine ax_aload_n f8_14 rfl ?_
    refine ax_aload_n f8_15 rfl ?_
    refine ax_iload f8_16 rfl ?_
    refine ax_iload f8_18 rfl ?_
    refine ax_csI (rest := [_]) f8_20 (Or.inl rfl) rfl rfl rfl rfl rfl rfl (c_7 a l (by omega) (by omega) hw) ?_
    intro _ e_
    obtain rfl := e_.symm
    clear e_
    refine ax_iadd f8_23 ?_
    refine ax_istore (ls' := [_, _, _, _, _, _, _, _, _, _, _]) f8_24 (Nat.le_of_ble_eq_true rfl) rfl ?_
    refine ax_iinc (ls' := [_, _, _, _, _, _, _, _, _, _, _]) f8_26 rfl (Nat.le_of_ble_eq_true rfl) rfl ?_
    refine ax_goto f8_29 rfl ?_
    refine lp_8a a l hw hx n (r + 1) (s + vl R w r) (by omega) (by omega) ?_
    rw [Int.add_assoc, ← sm_1]
    exact k
theorem lp_8b {d : Nat} {h : am_H} {q p : Nat} {R : Int → Int} {w x y : Int} {all : Int} (a : oI h q 48 R) (l : oI h p 48 (fun j => R (96 + j))) (hw : w = 0 ∨ w = 1 ∨ w = 2) (hx : 0 ≤ x ∧ x < y ∧ y ≤ 48 ∧ 0 ≤ all ∧ all ≤ 4800) (i : ival (vl R w) 0 48) : ∀ (n : Nat) (m bl best near nr ah bh : Int) {x10 : Value}, m + n = y → x < m → bh = all - ah → 0 ≤ near ∧ near ≤ 20000 → ah = sm (vl R w) x (m - 1 - x).toNat → ((bl = y ∧ nr = 1000000 ∧ 0 < n) ∨ (x < bl ∧ bl < m ∧ bl = best ∧ near = nr)) →
    am_X (d + 1) 8 46 [.ref q, .ref p, .int (iI x), .int (iI y), .int (iI w), .int (iI bh), .int (iI ah), .int (iI bl), .int (iI near), .int (iI m), x10] [] h (fun r h' => rI r (pl (vl R w) all best nr ah m n) ∧ h' = h)
  | 0, m, bl, best, near, nr, ah, bh, x10, h1, h2, h3, h4, ea, hb => by
    have h1 : m = y := by omega
    subst h1
    have hbl : bl = best ∧ 0 ≤ bl ∧ bl ≤ 48 := by omega
    refine ax_iload f8_46 rfl ?_
    refine ax_iload_n f8_48 rfl ?_
    refine ax_icmp_ge f8_49 rfl ⟨by omega, by omega⟩ ⟨by omega, by omega⟩ (fun q49 => ?_) (fun q49 => absurd q49 (by omega))
    refine ax_iload f8_133 rfl ?_
    refine ax_ireturn f8_135 rfl rfl ?_
    exact ⟨rI_of (show bl = best by omega), rfl⟩
  | n + 1, m, bl, best, near, nr, ah, bh, x10, h1, h2, h3, h4, ea, hb => by
    have i1 := ival_in (f := vl R w) (a := x) (n := (m - 1 - x).toNat) (fun j j1 j2 => i j (by omega) (by omega))
    have i2 := i (m - 1) (by omega) (by omega)
    rw [← ea] at i1
    obtain ⟨off, eo⟩ : ∃ off, off = (if 2 * (ah + vl R w (m - 1)) < all then all - 2 * (ah + vl R w (m - 1)) else 2 * (ah + vl R w (m - 1)) - all) := ⟨_, rfl⟩
    have ho : 0 ≤ off ∧ off ≤ 15000 := by rw [eo]; split <;> omega
    have hbl : 0 ≤ bl ∧ bl ≤ 48 := by omega
    have K : am_X (d + 1) 8 104 [.ref q, .ref p, .int (iI x), .int (iI y), .int (iI w), .int (iI (bh - vl R w (m - 1))), .int (iI (ah + vl R w (m - 1))), .int (iI bl), .int (iI near), .int (iI m), x10] [.int (iI off)] h (fun r h' => rI r (pl (vl R w) all best nr ah m (n + 1)) ∧ h' = h) := by
      refine ax_istore (ls' := [_, _, _, _, _, _, _, _, _, _, _]) f8_104 (Nat.le_of_ble_eq_true rfl) rfl ?_
      refine ax_iload f8_106 rfl ?_
      refine ax_iload_n f8_108 rfl ?_
      refine ax_icmp_eq f8_109 rfl ⟨by omega, by omega⟩ ⟨by omega, by omega⟩ (fun q109 => ?_) (fun q109 => ?_)
      · refine ax_iload f8_119 rfl ?_
        refine ax_istore (ls' := [_, _, _, _, _, _, _, _, _, _, _]) f8_121 (Nat.le_of_ble_eq_true rfl) rfl ?_
        refine ax_iload f8_123 rfl ?_
        refine ax_istore (ls' := [_, _, _, _, _, _, _, _, _, _, _]) f8_125 (Nat.le_of_ble_eq_true rfl) rfl ?_
        refine ax_iinc (ls' := [_, _, _, _, _, _, _, _, _, _, _]) f8_127 rfl (Nat.le_of_ble_eq_true rfl) rfl ?_
        refine ax_goto f8_130 rfl ?_
        have e : pl (vl R w) all best nr ah m (n + 1) = pl (vl R w) all m off (ah + vl R w (m - 1)) (m + 1) n := by
          show (if (if _ then _ else _) < nr then _ else _) = _
          rw [← eo, if_pos (by omega)]
        have ih := lp_8b (d := d) (x := x) (all := all) a l hw hx i n (m + 1) m m off off (ah + vl R w (m - 1)) (bh - vl R w (m - 1)) (x10 := .int (iI off)) (by omega) (by omega) (by omega) (by omega) ?_ ?_
        · rw [e]
          exact ih
        · rw [ea, show (m + 1 - 1 - x).toNat = (m - 1 - x).toNat + 1 by omega, sm_snoc]
          congr 2
          omega
        · exact Or.inr ⟨by omega, by omega, rfl, rfl⟩
      · refine ax_iload f8_112 rfl ?_
        refine ax_iload f8_114 rfl ?_
        refine ax_icmp_ge f8_116 rfl ⟨by omega, by omega⟩ ⟨by omega, by omega⟩ (fun q116 => ?_) (fun q116 => ?_)
        · refine ax_iinc (ls' := [_, _, _, _, _, _, _, _, _, _, _]) f8_127 rfl (Nat.le_of_ble_eq_true rfl) rfl ?_
          refine ax_goto f8_130 rfl ?_
          have e : pl (vl R w) all best nr ah m (n + 1) = pl (vl R w) all best nr (ah + vl R w (m - 1)) (m + 1) n := by
            show (if (if _ then _ else _) < nr then _ else _) = _
            rw [← eo, if_neg (by omega)]
          have ih := lp_8b (d := d) (x := x) (all := all) a l hw hx i n (m + 1) bl best near nr (ah + vl R w (m - 1)) (bh - vl R w (m - 1)) (x10 := .int (iI off)) (by omega) (by omega) (by omega) (by omega) ?_ ?_
          · rw [e]
            exact ih
          · rw [ea, show (m + 1 - 1 - x).toNat = (m - 1 - x).toNat + 1 by omega, sm_snoc]
            congr 2
            omega
          · exact Or.inr ⟨by omega, by omega, by omega, by omega⟩
        · refine ax_iload f8_119 rfl ?_
          refine ax_istore (ls' := [_, _, _, _, _, _, _, _, _, _, _]) f8_121 (Nat.le_of_ble_eq_true rfl) rfl ?_
          refine ax_iload f8_123 rfl ?_
          refine ax_istore (ls' := [_, _, _, _, _, _, _, _, _, _, _]) f8_125 (Nat.le_of_ble_eq_true rfl) rfl ?_
          refine ax_iinc (ls' := [_, _, _, _, _, _, _, _, _, _, _]) f8_127 rfl (Nat.le_of_ble_eq_true rfl) rfl ?_
          refine ax_goto f8_130 rfl ?_
          have e : pl (vl R w) all best nr ah m (n + 1) = pl (vl R w) all m off (ah + vl R w (m - 1)) (m + 1) n := by
            show (if (if _ then _ else _) < nr then _ else _) = _
            rw [← eo, if_pos (by omega)]
          have ih := lp_8b (d := d) (x := x) (all := all) a l hw hx i n (m + 1) m m off off (ah + vl R w (m - 1)) (bh - vl R w (m - 1)) (x10 := .int (iI off)) (by omega) (by omega) (by omega) (by omega) ?_ ?_
          · rw [e]
            exact ih
          · rw [ea, show (m + 1 - 1 - x).toNat = (m - 1 - x).toNat + 1 by omega, sm_snoc]
            congr 2
            omega
          · exact Or.inr ⟨by omega, by omega, rfl, rfl⟩
    refine ax_iload f8_46 rfl ?_
    refine ax_iload_n f8_48 rfl ?_
    refine ax_icmp_ge f8_49 rfl ⟨by omega, by omega⟩ ⟨by omega, by omega⟩ (fun q49 => absurd q49 (by omega)) (fun q49 => ?_)
    refine ax_iload f8_52 rfl ?_
    refine ax_aload_n f8_54 rfl ?_
    refine ax_aload_n f8_55 rfl ?_
    refine ax_iload f8_56 rfl ?_
    refine ax_iconst f8_58 ?_
    refine ax_isub f8_59 ?_
    refine ax_iload f8_60 rfl ?_
    refine ax_csI (rest := [_]) f8_62 (Or.inl rfl) rfl rfl rfl rfl rfl rfl (c_7 a l (by omega) (by omega) hw) ?_
    intro _ e_
    obtain rfl := e_.symm
    clear e_
    refine ax_iadd f8_65 ?_
    refine ax_istore (ls' := [_, _, _, _, _, _, _, _, _, _, _]) f8_66 (Nat.le_of_ble_eq_true rfl) rfl ?_
    refine ax_iload f8_68 rfl ?_
    refine ax_aload_n f8_70 rfl ?_
    refine ax_aload_n f8_71 rfl ?_
    refine ax_iload f8_72 rfl ?_
    refine ax_iconst f8_74 ?_
    refine ax_isub f8_75 ?_
    refine ax_iload f8_76 rfl ?_
    refine ax_csI (rest := [_]) f8_78 (Or.inl rfl) rfl rfl rfl rfl rfl rfl (c_7 a l (by omega) (by omega) hw) ?_
    intro _ e_
    obtain rfl := e_.symm
    clear e_
    refine ax_isub f8_81 ?_
    refine ax_istore (ls' := [_, _, _, _, _, _, _, _, _, _, _]) f8_82 (Nat.le_of_ble_eq_true rfl) rfl ?_
    refine ax_iload f8_84 rfl ?_
    refine ax_iload f8_86 rfl ?_
    refine ax_icmp_le f8_88 rfl ⟨by omega, by omega⟩ ⟨by omega, by omega⟩ (fun q88 => ?_) (fun q88 => ?_)
    · refine ax_iload f8_99 rfl ?_
      refine ax_iload f8_101 rfl ?_
      refine ax_isub f8_103 ?_
      rw [show bh - vl R w (m - 1) - (ah + vl R w (m - 1)) = off by rw [eo]; split <;> omega]
      exact K
    · refine ax_iload f8_91 rfl ?_
      refine ax_iload f8_93 rfl ?_
      refine ax_isub f8_95 ?_
      refine ax_goto f8_96 rfl ?_
      rw [show ah + vl R w (m - 1) - (bh - vl R w (m - 1)) = off by rw [eo]; split <;> omega]
      exact K
theorem c_8 {h : am_H} {q p : Nat} {R : Int → Int} {w x y : Int} (a : oI h q 48 R) (l : oI h p 48 (fun j => R (96 + j))) (hw : w = 0 ∨ w = 1 ∨ w = 2) (i : ival (vl R w) 0 48) (h1 : 0 ≤ x) (h2 : 2 ≤ y - x) (h3 : y ≤ 48) : am_X 1 8 0 (am_ent 8 [.ref q, .ref p, .int (iI x), .int (iI y), .int (iI w)]) [] h (fun r h' => rI r (hlf (vl R w) x y) ∧ h' = h) := by
  show am_X 1 8 0 [.ref q, .ref p, .int (iI x), .int (iI y), .int (iI w), am_u, am_u, am_u, am_u, am_u, am_u] [] h _
  refine ax_iconst f8_0 ?_
  refine ax_istore (ls' := [_, _, _, _, _, _, _, _, _, _, _]) f8_1 (Nat.le_of_ble_eq_true rfl) rfl ?_
  refine ax_iload_n f8_3 rfl ?_
  refine ax_istore (ls' := [_, _, _, _, _, _, _, _, _, _, _]) f8_4 (Nat.le_of_ble_eq_true rfl) rfl ?_
  refine lp_8a (d := 0) a l hw ⟨h1, h3⟩ (y - x).toNat x 0 (by omega) h1 ?_
  rw [Int.zero_add]
  have i1 := ival_in (f := vl R w) (a := x) (n := (y - x).toNat) (fun j j1 j2 => i j (by omega) (by omega))
  generalize ea : sm (vl R w) x (y - x).toNat = all at i1
  refine ax_iconst f8_32 ?_
  refine ax_istore (ls' := [_, _, _, _, _, _, _, _, _, _, _]) f8_33 (Nat.le_of_ble_eq_true rfl) rfl ?_
  refine ax_iload_n f8_35 rfl ?_
  refine ax_istore (ls' := [_, _, _, _, _, _, _, _, _, _, _]) f8_36 (Nat.le_of_ble_eq_true rfl) rfl ?_
  refine ax_iconst f8_38 ?_
  refine ax_istore (ls' := [_, _, _, _, _, _, _, _, _, _, _]) f8_39 (Nat.le_of_ble_eq_true rfl) rfl ?_
  refine ax_iload_n f8_41 rfl ?_
  refine ax_iconst f8_42 ?_
  refine ax_iadd f8_43 ?_
  refine ax_istore (ls' := [_, _, _, _, _, _, _, _, _, _, _]) f8_44 (Nat.le_of_ble_eq_true rfl) rfl ?_
  have ih := lp_8b (d := 0) (x := x) (all := all) a l hw ⟨h1, by omega, h3, by omega, by omega⟩ i (y - x - 1).toNat (x + 1) y (x + 1) 0 1000000 0 all (x10 := am_u) (by omega) (by omega) (by omega) (by omega) (by rw [show (x + 1 - 1 - x).toNat = 0 by omega, sm_0]) (Or.inl ⟨rfl, rfl, by omega⟩)
  unfold hlf
  rw [ea]
  exact ih
/-- how many blocks are needed, what is left of the last one, as the rows ahead of r tell it -/
def ned (R : Int → Int) (g r : Int) : Int := 1 + sm (gf R g) 0 r.toNat
def nel (R : Int → Int) (g r : Int) : Int := g - gb R g r.toNat
theorem gf_nel {R : Int → Int} {g r : Int} : gf R g r = if nel R g r < R r then 1 else 0 := by
  unfold gf nel
  split
  · rw [if_neg (by omega)]
  · rw [if_pos (by omega)]
theorem ned_s {R : Int → Int} {g r : Int} (h : 0 ≤ r) : ned R g (r + 1) = ned R g r + (if nel R g r < R r then 1 else 0) := by
  unfold ned
  rw [show (r + 1).toNat = r.toNat + 1 by omega, sm_snoc, show (0 : Int) + (r.toNat : Int) = r by omega, gf_nel]
  omega
theorem nel_s {R : Int → Int} {g r : Int} (h : 0 ≤ r) : nel R g (r + 1) = if nel R g r < R r then g - R r else nel R g r - R r := by
  unfold nel
  rw [show (r + 1).toNat = r.toNat + 1 by omega]
  have e : gb R g (r.toNat + 1) = if gb R g r.toNat + R r ≤ g then gb R g r.toNat + R r else R r := by
    show (if gb R g r.toNat + R (r.toNat : Int) ≤ g then gb R g r.toNat + R (r.toNat : Int) else R (r.toNat : Int)) = _
    rw [Int.toNat_of_nonneg h]
  rw [e]
  split <;> split <;> omega
theorem nel_in {R : Int → Int} (i : ibt R 0 48 1 99) {g r : Int} (h : 0 ≤ r) (h2 : r ≤ 48) : g - 4752 ≤ nel R g r ∧ nel R g r ≤ g := by
  have := gb_in i g r.toNat (by omega)
  unfold nel
  omega
theorem ned_in {R : Int → Int} {g r : Int} (h : 0 ≤ r) (h2 : r ≤ 48) : 1 ≤ ned R g r ∧ ned R g r ≤ 49 := by
  have l := sm_le (f := gf R g) (c := 1) (n := r.toNat) (a := 0) (fun j _ _ => by rcases gf_01 R g j with z | z <;> omega)
  have m := sm_ge (f := gf R g) (c := 0) (n := r.toNat) (a := 0) (fun j _ _ => by rcases gf_01 R g j with z | z <;> omega)
  unfold ned
  omega
def nee (R : Int → Int) (g : Int) : Int := if hvy R ≤ g then 1 + sm (gf R g) 0 48 else 99
theorem lp_18 {d : Nat} {h : am_H} {q : Nat} {R : Int → Int} (a : oI h q 48 R) (i : ibt R 0 48 1 99) {g : Int} (hg : 0 ≤ g ∧ g ≤ 5000) : ∀ (n : Nat) (r : Int), r + n = 48 → 0 ≤ r → 0 ≤ g → (∀ j, 0 ≤ j → j < r → R j ≤ g) → am_X d 18 7 [.ref q, .int (iI g), .int (iI (ned R g r)), .int (iI (nel R g r)), .int (iI r)] [] h (fun r' h' => rI r' (nee R g) ∧ h' = h)
  | 0, r, h1, h2, hg0, hj => by
    have h1 : r = 48 := by omega
    subst h1
    refine ax_iload f18_7 rfl ?_
    refine ax_bipush f18_9 ?_
    refine ax_icmp_ge f18_11 rfl ⟨by omega, by omega⟩ ⟨by omega, by omega⟩ (fun q11 => ?_) (fun q11 => absurd q11 (by omega))
    refine ax_iload_n f18_71 rfl ?_
    refine ax_ireturn f18_72 rfl rfl ?_
    refine ⟨rI_of ?_, rfl⟩
    unfold nee
    rw [if_pos (hvy_sp.mpr ⟨hg0, hj⟩)]
    rfl
  | n + 1, r, h1, h2, hg0, hj => by
    have wr := i r h2 (by omega)
    rw [Int.zero_add] at wr
    have n1 := nel_in i (g := g) h2 (by omega)
    have n2 := ned_in (R := R) (g := g) h2 (by omega)
    refine ax_iload f18_7 rfl ?_
    refine ax_bipush f18_9 ?_
    refine ax_icmp_ge f18_11 rfl ⟨by omega, by omega⟩ ⟨by omega, by omega⟩ (fun q11 => absurd q11 (by omega)) (fun q11 => ?_)
    refine ax_aload_n f18_14 rfl ?_
    refine ax_iload f18_15 rfl ?_
    refine ax_ialdO f18_17 (by decide) a (by omega) (by omega) rfl ?_
    refine ax_iload_n f18_18 rfl ?_
    refine ax_icmp_le f18_19 rfl ⟨by omega, by omega⟩ ⟨by omega, by omega⟩ (fun q19 => ?_) (fun q19 => ?_)
    · refine ax_iload_n f18_25 rfl ?_
      refine ax_aload_n f18_26 rfl ?_
      refine ax_iload f18_27 rfl ?_
      refine ax_ialdO f18_29 (by decide) a (by omega) (by omega) rfl ?_
      refine ax_iload_n f18_30 rfl ?_
      refine ax_icmp_le f18_31 rfl ⟨by omega, by omega⟩ ⟨by omega, by omega⟩ (fun q31 => ?_) (fun q31 => ?_)
      · refine ax_iconst f18_38 ?_
        refine ax_iadd f18_39 ?_
        refine ax_istore_n (ls' := [_, _, _, _, _]) f18_40 (Nat.le_of_ble_eq_true rfl) rfl ?_
        refine ax_aload_n f18_41 rfl ?_
        refine ax_iload f18_42 rfl ?_
        refine ax_ialdO f18_44 (by decide) a (by omega) (by omega) rfl ?_
        refine ax_iload_n f18_45 rfl ?_
        refine ax_icmp_le f18_46 rfl ⟨by omega, by omega⟩ ⟨by omega, by omega⟩ (fun q46 => ?_) (fun q46 => absurd q46 (by omega))
        refine ax_iload_n f18_58 rfl ?_
        refine ax_aload_n f18_59 rfl ?_
        refine ax_iload f18_60 rfl ?_
        refine ax_ialdO f18_62 (by decide) a (by omega) (by omega) rfl ?_
        refine ax_isub f18_63 ?_
        refine ax_istore_n (ls' := [_, _, _, _, _]) f18_64 (Nat.le_of_ble_eq_true rfl) rfl ?_
        refine ax_iinc (ls' := [_, _, _, _, _]) f18_65 rfl (Nat.le_of_ble_eq_true rfl) rfl ?_
        refine ax_goto f18_68 rfl ?_
        have ih := lp_18 (d := d) a i hg n (r + 1) (by omega) (by omega) (by omega) (fun j j1 j2 => by
          by_cases e : j = r
          · rw [e]; omega
          · exact hj j j1 (by omega))
        rw [ned_s h2, nel_s h2, if_neg (by omega), if_neg (by omega)] at ih
        exact ih
      · refine ax_iconst f18_34 ?_
        refine ax_goto f18_35 rfl ?_
        refine ax_iadd f18_39 ?_
        refine ax_istore_n (ls' := [_, _, _, _, _]) f18_40 (Nat.le_of_ble_eq_true rfl) rfl ?_
        refine ax_aload_n f18_41 rfl ?_
        refine ax_iload f18_42 rfl ?_
        refine ax_ialdO f18_44 (by decide) a (by omega) (by omega) rfl ?_
        refine ax_iload_n f18_45 rfl ?_
        refine ax_icmp_le f18_46 rfl ⟨by omega, by omega⟩ ⟨by omega, by omega⟩ (fun q46 => absurd q46 (by omega)) (fun q46 => ?_)
        refine ax_iload_n f18_49 rfl ?_
        refine ax_aload_n f18_50 rfl ?_
        refine ax_iload f18_51 rfl ?_
        refine ax_ialdO f18_53 (by decide) a (by omega) (by omega) rfl ?_
        refine ax_isub f18_54 ?_
        refine ax_goto f18_55 rfl ?_
        refine ax_istore_n (ls' := [_, _, _, _, _]) f18_64 (Nat.le_of_ble_eq_true rfl) rfl ?_
        refine ax_iinc (ls' := [_, _, _, _, _]) f18_65 rfl (Nat.le_of_ble_eq_true rfl) rfl ?_
        refine ax_goto f18_68 rfl ?_
        have ih := lp_18 (d := d) a i hg n (r + 1) (by omega) (by omega) (by omega) (fun j j1 j2 => by
          by_cases e : j = r
          · rw [e]; omega
          · exact hj j j1 (by omega))
        rw [ned_s h2, nel_s h2, if_pos (by omega), if_pos (by omega)] at ih
        exact ih
    · refine ax_bipush f18_22 ?_
      refine ax_ireturn f18_24 rfl rfl ?_
      refine ⟨rI_of ?_, rfl⟩
      unfold nee
      rw [if_neg]
      intro z
      have := (hvy_sp.mp z).2 r h2 (by omega)
      omega
theorem c_18 {h : am_H} {q : Nat} {R : Int → Int} (a : oI h q 48 R) (i : ibt R 0 48 1 99) {g : Int} (hg : 0 ≤ g ∧ g ≤ 5000) : am_X 0 18 0 (am_ent 18 [.ref q, .int (iI g)]) [] h (fun r h' => rI r (nee R g) ∧ h' = h) := by
  show am_X 0 18 0 [.ref q, .int (iI g), am_u, am_u, am_u] [] h _
  refine ax_iconst f18_0 ?_
  refine ax_istore_n (ls' := [_, _, _, _, _]) f18_1 (Nat.le_of_ble_eq_true rfl) rfl ?_
  refine ax_iload_n f18_2 rfl ?_
  refine ax_istore_n (ls' := [_, _, _, _, _]) f18_3 (Nat.le_of_ble_eq_true rfl) rfl ?_
  refine ax_iconst f18_4 ?_
  refine ax_istore (ls' := [_, _, _, _, _]) f18_5 (Nat.le_of_ble_eq_true rfl) rfl ?_
  have ih := lp_18 (d := 0) a i hg 48 0 (by omega) (by omega) hg.1 (fun j j1 j2 => by omega)
  have e1 : ned R g 0 = 1 := rfl
  have e2 : nel R g 0 = g := by unfold nel; exact Int.sub_zero g
  rw [e1, e2] at ih
  exact ih
end OWH
